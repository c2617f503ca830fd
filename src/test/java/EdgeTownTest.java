/** The bounds that the document names of the tape and of a town's text: promises 2 to 6. */
public final class EdgeTownTest {
    private static final int NONE = GrudgeTown.NONE;

    public static void main(String[] args) {
        feeding();
        fillingTheTape();
        ending();
        sorts();
        clauses();
        itemNumbers();
        thirdDigits();
        itemsWithout();
        lettersOnce();
        everyByte();
        endsTooEarly();
        whoIsTold();
        blanks();
        telling();
        rules();
        Check.finish();
    }

    /** Of each number the highest byte first; bytes of 0, wherever they stand, are left out. */
    private static void feeding() {
        for (int i = 0; i < 20; i++) {
            for (int j = i + 1; j < 20; j++) {
                for (int k = j + 1; k < 20; k++) {
                    int[] numbers = new int[5];
                    put(numbers, i, 'p');
                    put(numbers, j, ';');
                    put(numbers, k, 's');
                    GrudgeTown x = new GrudgeTown();
                    String call = "P2 p;s at " + i + " " + j + " " + k;
                    Check.due(call, x.feed(numbers[0], numbers[1], numbers[2], numbers[3], numbers[4]), 3);
                    Check.due(call + " in this order", x.fault(0), 3);
                }
            }
        }
    }

    private static void put(int[] numbers, int at, int sign) {
        numbers[at / 4] |= sign << (24 - at % 4 * 8);
    }

    private static void fillingTheTape() {
        for (int have = 219; have <= 240; have++) {
            for (int more = 0; more <= 20; more++) {
                GrudgeTown x = tapeOf(have);
                int[] numbers = new int[5];
                for (int i = 0; i < more; i++) {
                    put(numbers, i, 255);
                }
                boolean fits = have + more <= 240;
                String call = "P2 " + more + " bytes behind " + have;
                int got = x.feed(numbers[0], numbers[1], numbers[2], numbers[3], numbers[4]);
                Check.due(call, got, fits ? have + more : NONE);
                Check.due(call + ": the tape has", x.count(3), fits ? have + more : have);
            }
        }
        GrudgeTown x = new GrudgeTown();
        Check.due("P2 nothing, an empty tape", x.feed(0, 0, 0, 0, 0), 0);
        Check.due("P2 bytes 128 and 1", x.feed(0x80000001, 0, 0, 0, 0), 2);
        Check.due("P2 twenty bytes", x.feed(-1, Integer.MAX_VALUE, 0x01010101, 0x80808080, 0x7f7f7f7f), 22);
    }

    private static GrudgeTown tapeOf(int bytes) {
        GrudgeTown x = new GrudgeTown();
        for (int i = 0; i < 12; i++) {
            x.feed(0x20202020, 0x20202020, 0x20202020, 0x20202020, 0x20202020);
        }
        x.end(bytes);
        return x;
    }

    private static void ending() {
        for (int have : new int[] {0, 1, 20, 239, 240}) {
            for (int n = -2; n <= 242; n++) {
                GrudgeTown x = tapeOf(have);
                boolean can = n >= 0 && n <= have;
                Check.due("P3 end(" + n + ") of " + have, x.end(n), can);
                Check.due("P3 the tape behind end(" + n + ") of " + have, x.count(3), can ? n : have);
            }
            for (int n : Check.FAR) {
                Check.due("P3 end(" + n + ")", tapeOf(have).end(n), false);
            }
        }
        // The first n bytes are those that were there; what is fed then comes behind them.
        GrudgeTown x = new GrudgeTown();
        Check.feed(x, "p;xx");
        x.end(2);
        Check.feed(x, "p");
        Check.due("P3 fed behind the end", x.fault(0), NONE);
    }

    private static void sorts() {
        GrudgeTown x = new GrudgeTown();
        Check.feed(x, "p;p");
        for (int sort : Check.FAR) {
            Check.due("P4 fault(" + sort + ")", x.fault(sort), -2);
            Check.due("P5 text(" + sort + ")", x.text(sort), NONE);
        }
        Check.due("P4 fault(-1)", x.fault(-1), -2);
        Check.due("P4 fault(2)", x.fault(2), -2);
        Check.due("P4 fault(0)", x.fault(0), NONE);
        Check.due("P4 fault(1)", x.fault(1), 0);
        Check.due("P5 text(-1)", x.text(-1), NONE);
        Check.due("P5 text(2)", x.text(2), NONE);
        Check.due("P4 the tape is as it was", x.count(3), 3);
        Check.due("P4 no town by a fault", x.count(0), 0);
    }

    /** s one at most, p 2 .. 5, g none to 10. */
    private static void clauses() {
        for (int rules = 0; rules <= 2; rules++) {
            for (int persons = 0; persons <= 7; persons++) {
                for (int grudges = 0; grudges <= 12; grudges++) {
                    inOrder("s".repeat(rules) + "p".repeat(persons) + "g".repeat(grudges));
                    inOrder("g".repeat(grudges) + "p".repeat(persons) + "s".repeat(rules));
                    inOrder("p".repeat(persons) + "s".repeat(rules) + "g".repeat(grudges));
                }
            }
        }
        inOrder("gpgsgpggpggggpp");
        inOrder("gpgsgpggpgggggpp");
        inOrder("ppspgpgpp");
        inOrder("ppspgpgps");
    }

    private static void inOrder(String letters) {
        int rules = 0;
        int persons = 0;
        int grudges = 0;
        int fault = NONE;
        StringBuilder text = new StringBuilder();
        for (int i = 0; i < letters.length(); i++) {
            text.append(i == 0 ? "" : ";").append(letters.charAt(i));
            rules += letters.charAt(i) == 's' ? 1 : 0;
            persons += letters.charAt(i) == 'p' ? 1 : 0;
            grudges += letters.charAt(i) == 'g' ? 1 : 0;
            if (fault == NONE && (rules > 1 || persons > 5 || grudges > 10)) {
                fault = text.length() - 1;
            }
        }
        if (fault == NONE && persons < 2) {
            fault = text.length();
        }
        GrudgeTown x = new GrudgeTown();
        Check.due("P4 " + text, Check.faultOf(x, 0, text.toString()), fault);
        Check.due("P5 " + text, x.text(0), fault == NONE ? persons : NONE);
        Check.due("P36 persons of " + text, x.count(0), fault == NONE ? persons : 0);
        Check.due("P36 told grudges of " + text, x.count(1), fault == NONE ? grudges : 0);
    }

    private static final String[] ITEMS = {"sf", "sk", "pt", "pl", "go", "ga", "gw", "gk"};
    private static final int[] LEAST = {0, 0, 0, 0, 0, 0, 1, 0};
    private static final int[] MOST = {9, 99, 9, 9, 4, 4, 30, 2};
    private static final int[] WITHOUT = {1, 20, 4, 3, 0, 1, 6, 0};

    /** Each item's number, of one digit and of two, at its bounds, within and beside them. */
    private static void itemNumbers() {
        for (int item = 0; item < ITEMS.length; item++) {
            for (int value = 0; value <= 99; value++) {
                itemNumber(item, value, String.valueOf(value));
                if (value < 10) {
                    itemNumber(item, value, "0" + value);
                }
            }
        }
    }

    private static void itemNumber(int item, int value, String digits) {
        boolean within = value >= LEAST[item] && value <= MOST[item];
        String text = textWith(item, digits, value);
        GrudgeTown x = new GrudgeTown();
        Check.due("P4 " + text, Check.faultOf(x, 0, text), within ? NONE : 1 + digits.length());
        Check.due("P5 " + text, x.text(0), within ? 5 : NONE);
        if (within) {
            Check.due("P5 told by " + text, told(x, item), value);
        }
    }

    /** A text that begins with this item and has all that it needs behind it. */
    private static String textWith(int item, String digits, int value) {
        String more = "";
        if (item == 4) {
            more = "a" + (value == 0 ? 1 : 0);
        } else if (item == 5) {
            more = "o" + (value == 0 ? 1 : 0);
        }
        return ITEMS[item] + digits + more + ";p;p;p;p" + (ITEMS[item].charAt(0) == 'p' ? "" : ";p");
    }

    private static int told(GrudgeTown x, int item) {
        switch (item) {
            case 0:
            case 1:
                return x.rule(item);
            case 2:
            case 3:
                return x.person(0, item - 2);
            default:
                return x.grudge(0, item - 4);
        }
    }

    /** A third digit is the fault itself, whatever stands ahead of it. */
    private static void thirdDigits() {
        for (int item = 0; item < ITEMS.length; item++) {
            for (int digits = 0; digits <= 999; digits++) {
                String three = String.valueOf(1000 + digits).substring(1);
                GrudgeTown x = new GrudgeTown();
                Check.due("P4 " + ITEMS[item] + three, Check.faultOf(x, 0, ITEMS[item] + three), 4);
            }
            String text = "p;p; " + ITEMS[item] + " 0000";
            Check.due("P4 " + text, Check.faultOf(new GrudgeTown(), 0, text), 10);
        }
    }

    private static void itemsWithout() {
        GrudgeTown bare = Check.town("p;p;s;g");
        GrudgeTown ruleless = Check.town("p;p;g");
        for (int item = 0; item < ITEMS.length; item++) {
            Check.due("P5 without " + ITEMS[item], told(bare, item), WITHOUT[item]);
            Check.due("P5 without " + ITEMS[item] + ", no s", told(ruleless, item), WITHOUT[item]);
        }
        // One item told leaves the others of its clause as they are without.
        GrudgeTown one = Check.town("sk7;pl1;pt2;gw2");
        Check.due("P5 f without", one.rule(0), 1);
        Check.due("P5 t without", one.person(0, 0), 4);
        Check.due("P5 l without", one.person(1, 1), 3);
        Check.due("P5 o without", one.grudge(0, 0), 0);
        Check.due("P5 a without", one.grudge(0, 1), 1);
        Check.due("P5 k without", one.grudge(0, 3), 0);
        // What the clause ahead told is not told of the next one.
        GrudgeTown two = Check.town("pt9l9;p;go1a0w9k2;g");
        Check.due("P5 t of the next", two.person(1, 0), 4);
        Check.due("P5 l of the next", two.person(1, 1), 3);
        int[] next = {0, 1, 6, 0};
        for (int what = 0; what < 4; what++) {
            Check.due("P5 grudge(1, " + what + ") of the next", two.grudge(1, what), next[what]);
        }
    }

    /** Each letter once at most in a clause, but in each clause. */
    private static void lettersOnce() {
        town("sf1f1;p;p", 3);
        town("sf1k1f1;p;p", 5);
        town("sk1k", 3);
        town("pt1t1;p", 3);
        town("pl1t1l1;p", 5);
        town("pt1l1;pt1l1;pl1t1", NONE);
        town("go0o0;p;p", 3);
        town("ga1a1;p;p", 3);
        town("gw1w1;p;p", 3);
        town("gk1k1;p;p", 3);
        town("go0a1w1k1o0;p;p", 9);
        town("go0a1w1k1k1;p;p", 9);
        town("gk1w1a1o0;gk1w1a1o0;sk1f1;p;p", NONE);
        // The letter that was there is wrong whatever comes behind it.
        town("pt1t", 3);
        town("pt1 t99", 4);
        town("pt 1 l 1 t ; p", 9);
    }

    /** Each byte where a clause, an item, a number or what is behind one may stand. */
    private static void everyByte() {
        for (int b = 1; b <= 255; b++) {
            char sign = (char) b;
            boolean digit = sign >= '0' && sign <= '9';
            boolean blank = sign == ' ';
            behind("", sign, "spg ".indexOf(sign) >= 0 ? 1 : 0);
            behind("p;p;", sign, "spg".indexOf(sign) >= 0 ? NONE : blank ? 5 : 4);
            behind("p;p", sign, blank ? NONE : ";tl".indexOf(sign) >= 0 ? 4 : 3);
            behind("p;p;s", sign, blank ? NONE : ";fk".indexOf(sign) >= 0 ? 6 : 5);
            behind("p;p;g", sign, blank ? NONE : ";oawk".indexOf(sign) >= 0 ? 6 : 5);
            behind("p;pt", sign, digit ? NONE : blank ? 5 : 4);
            behind("p;pt0", sign, digit || blank ? NONE : ";l".indexOf(sign) >= 0 ? 6 : 5);
            behind("p;pt1", sign, blank ? NONE : ";l".indexOf(sign) >= 0 ? 6 : 5);
            behind("p;pt01", sign, blank ? NONE : ";l".indexOf(sign) >= 0 ? 7 : 6);
            behind("p;pt1 ", sign, blank ? NONE : ";l".indexOf(sign) >= 0 ? 7 : 6);
            behind("p;pt1l2", sign, blank ? NONE : sign == ';' ? 8 : 7);
            behind("p;p;gw3", sign, blank || sign == '0' ? NONE : ";oak".indexOf(sign) >= 0 ? 8 : 7);
            behind("p;p;sk9", sign, blank || digit ? NONE : ";f".indexOf(sign) >= 0 ? 8 : 7);
        }
    }

    private static void behind(String text, char sign, int want) {
        GrudgeTown x = new GrudgeTown();
        Check.due("P4 " + text + " and byte " + (int) sign, Check.faultOf(x, 0, text + sign), want);
    }

    /** Each beginning of a text that has no fault: where it ends too early, its length is the fault. */
    private static void endsTooEarly() {
        String text = "sf2k30;pt5l6;p;pl0;go2a0w12k1;g";
        // Two persons are told with the third clause; a letter wants its number, a ; its clause.
        for (int n = 0; n <= text.length(); n++) {
            String begun = text.substring(0, n);
            boolean whole = begun.split(";").length >= 3 && !begun.endsWith(";")
                    && (begun.isEmpty() || "ftlkoaw".indexOf(begun.charAt(n - 1)) < 0);
            Check.due("P4 " + begun, Check.faultOf(new GrudgeTown(), 0, begun), whole ? NONE : n);
            Check.due("P4 " + begun + " and blanks", Check.faultOf(new GrudgeTown(), 0, begun + "   "),
                    whole ? NONE : n + 3);
        }
        town("", 0);
        town(" ", 1);
        town(" ".repeat(240), 240);
        town("p", 1);
        town("s;g", 3);
        town("g;g;g", 5);
    }

    /** A grudge of or against one that is not told, against himself: the length, wherever its clause stands. */
    private static void whoIsTold() {
        for (int persons = 2; persons <= 5; persons++) {
            String all = "p" + ";p".repeat(persons - 1);
            for (int o = 0; o <= 4; o++) {
                for (int a = 0; a <= 4; a++) {
                    boolean fine = o < persons && a < persons && o != a;
                    String grudge = "go" + o + "a" + a;
                    String[] texts = {grudge + ";" + all, all + ";" + grudge, all + ";g;" + grudge + ";g ", "p;"
                        + grudge + all.substring(1)};
                    for (String text : texts) {
                        town(text, fine ? NONE : text.length());
                    }
                    // A byte that is wrong itself comes first.
                    town(grudge + ";" + all + "x", grudge.length() + 1 + all.length());
                }
            }
        }
        // Without o it is 0, without a it is 1.
        town("p;p;ga0", 7);
        town("p;p;go1", 7);
        town("p;p;go0", NONE);
        town("p;p;ga1", NONE);
        town("p;g", 3);
    }

    private static void blanks() {
        town(" s f 1 k 20 ; p t 1 ; p l 2 ; g o 1 a 0 w 3 k 1 ", NONE);
        town("sf  9;p   ;  p", NONE);
        town("sk2 0;p;p", 4);
        town("pt0 1;p", 4);
        town("p;p" + " ".repeat(237), NONE);
        town(" ".repeat(237) + "p;p", NONE);
        town(" ".repeat(238) + "p;", 240);
        for (char other : new char[] {9, 10, 13, 31, 33, 160}) {
            town("p;" + other + "p", 2);
        }
    }

    /** The tape is empty when it is told, and stays as it is when it is refused. */
    private static void telling() {
        GrudgeTown x = new GrudgeTown();
        Check.due("P5 an empty tape", x.text(0), NONE);
        Check.due("P5 an empty tape as a law", x.text(1), NONE);
        Check.feed(x, "p;p;x");
        Check.due("P5 a fault", x.text(0), NONE);
        Check.due("P5 the tape stays", x.count(3), 5);
        Check.due("P5 no town yet", x.count(0), 0);
        x.end(3);
        Check.due("P5 without it", x.text(0), 2);
        Check.due("P5 the tape is empty", x.count(3), 0);
        Check.due("P5 the same tape again", x.text(0), NONE);
        Check.due("P5 the town stays", x.count(0), 2);
    }

    private static void rules() {
        GrudgeTown none = new GrudgeTown();
        GrudgeTown x = Check.town("sf9k99;p;p");
        Check.due("P6 no town", none.rule(0), NONE);
        Check.due("P6 no town", none.rule(1), NONE);
        Check.due("P6 rule(-1)", x.rule(-1), NONE);
        Check.due("P6 rule(0)", x.rule(0), 9);
        Check.due("P6 rule(1)", x.rule(1), 99);
        Check.due("P6 rule(2)", x.rule(2), NONE);
        for (int what : Check.FAR) {
            Check.due("P6 rule(" + what + ")", x.rule(what), NONE);
        }
    }

    private static void town(String text, int want) {
        Check.due("P4 " + text, Check.faultOf(new GrudgeTown(), 0, text), want);
    }
}
