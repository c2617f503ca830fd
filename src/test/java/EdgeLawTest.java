/** The bounds that the document names of a law's text, its worth, and which law holds: promises 4, 5, 9, 11 and 20. */
public final class EdgeLawTest {
    private static final int NONE = GrudgeTown.NONE;

    public static void main(String[] args) {
        everyByte();
        endsTooEarly();
        digits();
        depths();
        sideBySide();
        conditionsAhead();
        sumsWithinBounds();
        divisions();
        worthWithinBounds();
        clausesInOrder();
        truths();
        letters();
        lettersOfGrudges();
        withoutLaw();
        lawsAtMost();
        whichHolds();
        weighing();
        Check.finish();
    }

    private static final String JOINS = "+-*/";
    private static final String LETTERS = "tlnmsd";

    /** Each byte behind each way a law may have begun. */
    private static void everyByte() {
        for (int b = 1; b <= 255; b++) {
            char sign = (char) b;
            boolean digit = sign >= '0' && sign <= '9';
            boolean blank = sign == ' ';
            boolean letter = LETTERS.indexOf(sign) >= 0;
            boolean joins = JOINS.indexOf(sign) >= 0;
            behind("", sign, false, sign == 'y' || blank);
            behind("y", sign, false, sign == ':' || blank);
            behind("y:", sign, digit || letter, "[(!".indexOf(sign) >= 0 || blank);
            behind("y:1", sign, digit || blank, joins || "=<>;".indexOf(sign) >= 0);
            behind("y:1 ", sign, blank, joins || "=<>;".indexOf(sign) >= 0);
            behind("y:1234", sign, blank, joins || "=<>;".indexOf(sign) >= 0);
            behind("y:t", sign, blank, joins || "=<>;".indexOf(sign) >= 0);
            behind("y:[1]", sign, blank, joins || "=<>;".indexOf(sign) >= 0);
            behind("y:1;", sign, false, sign == 'y' || blank);
            behind("y:1+", sign, digit || letter, sign == '[' || blank);
            behind("y:1/", sign, digit || letter, sign == '[' || blank);
            behind("y:1=", sign, false, digit || letter || sign == '[' || blank);
            behind("y:1=t", sign, false, joins || "&|?".indexOf(sign) >= 0 || blank);
            behind("y:1=1", sign, false, digit || joins || "&|?".indexOf(sign) >= 0 || blank);
            behind("y:1=1&", sign, false, digit || letter || "[(!".indexOf(sign) >= 0 || blank);
            behind("y:1=1|", sign, false, digit || letter || "[(!".indexOf(sign) >= 0 || blank);
            behind("y:1=1?", sign, digit || letter, sign == '[' || blank);
            behind("y:1=1?1", sign, digit || blank, joins || sign == ';');
            behind("y:1=1?t", sign, blank, joins || sign == ';');
            behind("y:(", sign, false, digit || letter || "[(!".indexOf(sign) >= 0 || blank);
            behind("y:(1", sign, false, digit || joins || "=<>".indexOf(sign) >= 0 || blank);
            behind("y:(1=t", sign, false, joins || "&|)".indexOf(sign) >= 0 || blank);
            behind("y:(1=1)", sign, false, "&|?".indexOf(sign) >= 0 || blank);
            behind("y:!", sign, false, digit || letter || "[(!".indexOf(sign) >= 0 || blank);
            behind("y:!1", sign, false, digit || joins || "=<>".indexOf(sign) >= 0 || blank);
            behind("y:!1=t", sign, false, joins || "&|?".indexOf(sign) >= 0 || blank);
            behind("y:[", sign, false, digit || letter || sign == '[' || blank);
            behind("y:[t", sign, sign == ']', joins || blank);
            behind("y:1=[t", sign, false, joins || sign == ']' || blank);
        }
    }

    /** A byte with which it is whole, one with which it may go on, or one that is wrong. */
    private static void behind(String text, char sign, boolean whole, boolean goesOn) {
        int want = whole ? NONE : goesOn ? text.length() + 1 : text.length();
        Check.due("P4 " + text + " and byte " + (int) sign, Check.faultOf(new GrudgeTown(), 1, text + sign), want);
    }

    private static void endsTooEarly() {
        String text = "y:!(t=1|[l+2]*3>n)&m<4?s-d;y:12";
        for (int n = 0; n <= text.length(); n++) {
            boolean whole = n == 24 || n == 26 || n >= 30;
            Check.due("P4 " + text.substring(0, n), faultOf(text.substring(0, n)), whole ? NONE : n);
            Check.due("P4 " + text.substring(0, n) + " and blanks", faultOf(text.substring(0, n) + "  "),
                    whole ? NONE : n + 2);
        }
        law("", 0);
        law(" ".repeat(240), 240);
        law(";", 0);
        law("y:1;;y:1", 4);
    }

    /** A number has 1 to 4 digits; a fifth one is the fault itself. */
    private static void digits() {
        String[] ahead = {"y:", "y:1+", "y:1*", "y:[", "y:1=", "y:!", "y:(", "y:1=1?", "y:1;y:", "y: "};
        String[] behind = {"", "", "", "]", "?1", "=1?1", "=1)?1", "", "", " "};
        for (int i = 0; i < ahead.length; i++) {
            for (int digits = 0; digits <= 6; digits++) {
                for (String digit : new String[] {"0", "9"}) {
                    String text = ahead[i] + digit.repeat(digits) + behind[i];
                    int want = digits == 0 ? -2 : digits <= 4 ? NONE : ahead[i].length() + 4;
                    if (want != -2) {
                        law(text, want);
                    }
                }
            }
        }
        law("y:", 2);
        law("y:1+", 4);
        law("y:[]", 3);
        law("y:99999", 6);
        law("y:00001", 6);
        law("y:1234 5", 7);
        worth("y:0030", 30);
        worth("y:9999/500", 19);
    }

    /** At most six of ( [ ! within one another, a seventh is wrong, in every order in which they may stand. */
    private static void depths() {
        for (int deep = 1; deep <= 9; deep++) {
            for (int brackets = 0; brackets <= deep; brackets++) {
                int outer = deep - brackets;
                for (int kinds = 0; kinds < 1 << outer; kinds++) {
                    deepLaw(outer, kinds, brackets);
                }
            }
        }
    }

    private static void deepLaw(int outer, int kinds, int brackets) {
        StringBuilder opened = new StringBuilder("y:");
        StringBuilder closed = new StringBuilder();
        for (int i = 0; i < outer; i++) {
            boolean round = (kinds >> i & 1) == 1;
            opened.append(round ? '(' : '!');
            closed.insert(0, round ? ")" : "");
        }
        String sum = "[".repeat(brackets) + "1" + "]".repeat(brackets);
        String[] texts = {
            opened + sum + "=1" + closed + "?1",
            opened + "1=" + sum + closed + "?1",
            opened + "1=1+" + sum + closed + "?1",
        };
        int[] sumAt = {0, 2, 4};
        for (int i = 0; i < texts.length; i++) {
            int want = NONE;
            if (outer >= 7) {
                want = 8;
            } else if (outer + brackets >= 7) {
                want = 2 + outer + sumAt[i] + 6 - outer;
            }
            law(texts[i], want);
        }
        if (outer == 0) {
            law("y:" + sum, brackets >= 7 ? 8 : NONE);
            law("y:1=1?" + sum, brackets >= 7 ? 12 : NONE);
        }
    }

    /** Side by side they are not within one another. */
    private static void sideBySide() {
        law("y:" + "(1=1)&".repeat(30) + "1=1?1", NONE);
        law("y:" + "!1=1&".repeat(30) + "1=1?1", NONE);
        law("y:" + "!(![1]=1)|".repeat(20) + "1=1?1", NONE);
        law("y:" + "[1]+".repeat(30) + "1", NONE);
        law("y:[[[[[[1]]]]]]+[[[[[[1]]]]]]", NONE);
        law("y:[[[[[[1]]]]]]+[[[[[[[1]]]]]]]", 22);
        law("y:[[[[[[1]+[1]]]]]]", NONE);
        law("y:[[[[[[1]+[[1]]]]]]]", 12);
        law("y:((((((1=1)&!1=1)&1=1))))?[[[[[[1]]]]]];y:((((((1=1))))))?1", NONE);
        law("y:!!!!!!1=1&!!!!!!1=1?1", NONE);
        law("y:!!!!!!1=1&!!!!!!!1=1?1", 18);
        law("y:(((!(!1=1))))&[[[[[[1]]]]]]=1?1", NONE);
        law("y:(((!(!1=[1]))))?1", 10);
        law("y:(((!(!1=1)&(1=[1]))))?1", NONE);
    }

    /** Behind its : a ! or ( has a condition follow, and a ? must come. */
    private static void conditionsAhead() {
        law("y:(1)", 4);
        law("y:(1+1)*2", 6);
        law("y:(t=1)*2", 7);
        law("y:!t", 4);
        law("y:!t=1", 6);
        law("y:!t=1;y:1", 6);
        law("y:t=1", 5);
        law("y:t=1;y:1", 5);
        law("y:[t=1]?1", 4);
        law("y:[t]=1?1", NONE);
        law("y:[(t=1)]?1", 3);
        law("y:t?1", 3);
        law("y:?1", 2);
        law("y:t=1??1", 6);
        law("y:t=1?1?1", 7);
        law("y:t=1?t=1?1", 7);
        law("y:t=1?(t=1)", 6);
    }

    /** Behind each sign numbers are within -1,000,000 .. 1,000,000. */
    private static void sumsWithinBounds() {
        holds("1000*1000", "=", "999*1000+1000");
        holds("1000*1000-1", "<", "1000*1000");
        holds("999*1000+999", "<", "1000*1000");
        holds("999*1000+1000", "=", "1000*1000");
        holds("999*1000+1001", "=", "1000*1000");
        holds("1000*1000+1", "=", "1000*1000");
        holds("1000*1001", "=", "1000*1000");
        holds("9999*9999", "=", "1000*1000");
        holds("1000*1000+9999-9999", "=", "1000*1000-9999");
        holds("1000*1000+[9999-9999]", "=", "1000*1000");
        holds("0-1000*1000", "=", "[0-999]*1000-1000");
        holds("0-1000*1000+1", ">", "0-1000*1000");
        holds("0-1000*1000-1", "=", "0-1000*1000");
        holds("[0-999]*1000-999", ">", "0-1000*1000");
        holds("[0-999]*1000-1001", "=", "0-1000*1000");
        holds("[0-1000]*1001", "=", "0-1000*1000");
        holds("[0-9999]*[0-9999]", "=", "1000*1000");
        holds("[0-1000]*[0-1001]", "=", "1000*1000");
        holds("0-1000*1000-9999+9999", "=", "9999-1000*1000");
        holds("1000*1001/1000", "=", "1000");
        holds("[0-1000*1000]*[1000*1000]", "=", "0-1000*1000");
        holds("[1000*1000]*[1000*1000]", "=", "1000*1000");
        holds("[0-1000*1000]-[1000*1000]", "=", "0-1000*1000");
        holds("1000*1000-[0-1000*1000]", "=", "1000*1000");
        holds("[0-1000*1000]/[0-1]", "=", "1000*1000");
    }

    /** Cuts towards 0; by 0 gives 0. */
    private static void divisions() {
        int[] numbers = {-9999, -31, -7, -2, -1, 0, 1, 2, 7, 31, 9999};
        for (int left : numbers) {
            for (int right : numbers) {
                int want = right == 0 ? 0 : Math.abs(left) / Math.abs(right);
                if ((left < 0) != (right < 0)) {
                    want = -want;
                }
                holds("[" + written(left) + "]/[" + written(right) + "]", "=", written(want));
            }
        }
        holds("1/0+5", "=", "5");
        holds("7/[t-t]*3", "=", "0");
        holds("1000*1000/0", "=", "0");
    }

    private static String written(int number) {
        return number < 0 ? "0-" + -number : String.valueOf(number);
    }

    private static void holds(String left, String relation, String right) {
        worth("y:" + left + relation + right + "?7;y:9", 7);
        worth("y:!" + left + relation + right + "?7;y:9", 9);
    }

    /** Held within 1 .. 30, by weighing and by offending. */
    private static void worthWithinBounds() {
        for (int number = -3; number <= 35; number++) {
            worth("y:" + written(number), Math.max(1, Math.min(30, number)));
        }
        worth("y:9999", 30);
        worth("y:0-9999", 1);
        worth("y:9999*9999", 30);
        worth("y:0-9999*9999", 1);
    }

    /** The first clause whose condition holds, or has none; 0 without, which is held to 1. */
    private static void clausesInOrder() {
        worth("y:1=2?9", 1);
        worth("y:1=2?9;y:2=3?9;y:3=4?9", 1);
        worth("y:1=1?9", 9);
        worth("y:1=2?9;y:8;y:7", 8);
        worth("y:1=1?9;y:1=1?8;y:7", 9);
        worth("y:1=2?9;y:1=1?8;y:7", 8);
        worth("y:9;y:8", 9);
        worth("y:1<1?9;y:8", 8);
        worth("y:1<2?9;y:8", 9);
        worth("y:2<1?9;y:8", 8);
        worth("y:1>1?9;y:8", 8);
        worth("y:2>1?9;y:8", 9);
        worth("y:1>2?9;y:8", 8);
        worth("y:1=0?9;y:8", 8);
        worth("y:0-1<0?9;y:8", 9);
    }

    /** & holds if both do, | if one does, & ahead of |, ! of its own unit alone. */
    private static void truths() {
        String[] units = {"1=2", "1=1"};
        for (int bits = 0; bits < 8; bits++) {
            boolean a = (bits & 1) != 0;
            boolean b = (bits & 2) != 0;
            boolean c = (bits & 4) != 0;
            String first = units[bits & 1];
            String second = units[bits >> 1 & 1];
            String third = units[bits >> 2];
            truth(first + "&" + second, a && b);
            truth(first + "|" + second, a || b);
            truth(first + "&" + second + "|" + third, a && b || c);
            truth(first + "|" + second + "&" + third, a || b && c);
            truth("(" + first + "|" + second + ")&" + third, (a || b) && c);
            truth("!" + first + "&" + second, !a && b);
            truth("!" + first + "|" + second, !a || b);
            truth("!(" + first + "|" + second + ")", !(a || b));
            truth(first + "&" + second + "&" + third, a && b && c);
            truth(first + "|" + second + "|" + third, a || b || c);
            truth("!!" + first + "&!" + second, a && !b);
        }
    }

    private static void truth(String condition, boolean want) {
        worth("y:" + condition + "?7;y:9", want ? 7 : 9);
    }

    /** t and l at 0 and 9, s at 0 and 1, d at 0 and 999. */
    private static void letters() {
        for (int number = 0; number <= 9; number += 9) {
            GrudgeTown x = Check.town("pl" + number + ";pt" + number);
            Check.law(x, "y:t+2");
            Check.due("P20 t " + number, x.weighs(0, 1), number + 2);
            Check.law(x, "y:l+2");
            Check.due("P20 l " + number, x.weighs(0, 1), number + 2);
            Check.due("P20 l of the one who offends", x.weighs(1, 0), 5);
        }
        GrudgeTown s = Check.town("sf0;p;p;p;p;g;go1a0");
        Check.law(s, "y:s+4");
        Check.due("P20 s, both in town", s.weighs(2, 0), 5);
        s.days(1);
        Check.due("P20 s of one in the hut", s.weighs(2, 0), 4);
        Check.due("P20 s, the other one in the hut", s.weighs(0, 2), 5);
        Check.due("P20 s, both in the hut", s.weighs(3, 2), 4);
        s.offends(2, 0);
        Check.due("P11 s as ahead of it", s.grudge(2, 2), 4);
        Check.due("P20 s of one come back", s.weighs(2, 0), 5);
        GrudgeTown d = Check.town("sf0;p;p;g;go1a0");
        Check.law(d, "y:d<990?d+2;y:d-990");
        Check.due("P20 d 0", d.weighs(0, 1), 2);
        d.days(1);
        Check.due("P20 d 1", d.weighs(0, 1), 3);
        d.days(38);
        for (int i = 0; i < 16; i++) {
            d.days(60);
        }
        Check.due("P20 d 999", d.weighs(0, 1), 9);
        Check.due("P11 d 999", d.offends(0, 1), 2);
        Check.due("P11 heavy by d 999", d.grudge(2, 2), 9);
        Check.due("P29 d 999 in a game: apart, one behind 999 is as now", d.game(0, 1, 1, 1, 0), 18);
    }

    /** n and m at 0 and at 12, those of and by one in the hut, too, all as ahead of it. */
    private static void lettersOfGrudges() {
        GrudgeTown x = Check.town("sf0k99;p;p;p");
        Check.law(x, "y:n+1");
        for (int i = 0; i < 12; i++) {
            Check.due("P20 n " + i, x.weighs(0, 1), i + 1);
            Check.due("P20 n of the other one", x.weighs(1, 0), 1);
            Check.due("P11 n " + i, x.offends(0, 1 + i % 2), i);
            Check.due("P11 heavy by n " + i, x.grudge(i, 2), i + 1);
        }
        Check.due("P20 n 12, without a place", x.weighs(0, 1), 13);
        x.days(1);
        Check.due("P7 both who hold them are in the hut", x.most(5), 1);
        Check.due("P20 n, held in the hut", x.weighs(0, 1), 13);
        GrudgeTown y = Check.town("sf0k99;p;p;p");
        Check.law(y, "y:m+1");
        for (int i = 0; i < 12; i++) {
            Check.due("P20 m " + i, y.weighs(0, 1), i + 1);
            Check.due("P20 m of the one who offends", y.weighs(1, 0), 1);
            Check.due("P11 m " + i, y.offends(i % 2 * 2, 1), i);
            Check.due("P11 heavy by m " + i, y.grudge(i, 2), i + 1);
        }
        Check.due("P20 m 12, without a place", y.weighs(2, 1), 13);
        y.forgives(11);
        Check.due("P20 m 11", y.weighs(2, 1), 12);
    }

    /** TEMPER of the other one, and 2. */
    private static void withoutLaw() {
        for (int temper = 0; temper <= 9; temper++) {
            GrudgeTown x = Check.town("pt3;pt" + temper);
            Check.due("P20 temper " + temper, x.weighs(0, 1), temper + 2);
            Check.due("P20 temper of the other one", x.weighs(1, 0), 5);
            x.offends(0, 1);
            Check.due("P11 temper " + temper, x.grudge(0, 2), temper + 2);
        }
    }

    private static void lawsAtMost() {
        GrudgeTown x = new GrudgeTown();
        for (int i = 0; i < 4; i++) {
            Check.due("P9 law(" + i + ") is not told yet", x.law(i), false);
            Check.feed(x, "y:" + (i + 1));
            Check.due("P5 law " + i, x.text(1), i);
            Check.due("P36 laws", x.count(2), i + 1);
            Check.due("P9 law(" + i + ")", x.law(i), true);
            Check.due("P9 law(" + (i + 1) + ")", x.law(i + 1), false);
            Check.due("P36 the law that holds", x.count(4), i);
        }
        Check.feed(x, "y:5");
        Check.due("P4 no fault of a fifth", x.fault(1), NONE);
        Check.due("P5 a fifth", x.text(1), NONE);
        Check.due("P5 the tape stays", x.count(3), 3);
        Check.due("P36 four", x.count(2), 4);
        Check.due("P5 a fault", Check.faultOf(x, 1, "y:"), 2);
        Check.due("P5 a fault of a fifth", x.text(1), NONE);
        x.end(0);
        Check.feed(x, "p;p");
        Check.due("P5 a town still can be told", x.text(0), 2);
        for (int i = 0; i < 4; i++) {
            x.law(i);
            Check.due("P20 by law " + i, x.weighs(0, 1), i + 1);
        }
    }

    private static void whichHolds() {
        GrudgeTown x = new GrudgeTown();
        Check.due("P36 none at first", x.count(4), NONE);
        Check.due("P9 none", x.law(NONE), true);
        Check.due("P9 law(0)", x.law(0), false);
        Check.feed(x, "y:7");
        x.text(1);
        Check.due("P36 none by its being told", x.count(4), NONE);
        Check.due("P9 law(0)", x.law(0), true);
        for (int law : Check.FAR) {
            Check.due("P9 law(" + law + ")", x.law(law), false);
            Check.due("P9 it is as it was", x.count(4), 0);
        }
        Check.due("P9 it is so", x.law(0), true);
        Check.due("P9 none", x.law(NONE), true);
        Check.due("P36 none", x.count(4), NONE);
        for (int what = 0; what < 5; what++) {
            Check.due("P9 no status", x.status(what), 0);
        }
    }

    private static void weighing() {
        GrudgeTown none = new GrudgeTown();
        Check.due("P20 no town", none.weighs(0, 1), NONE);
        for (int persons = 2; persons <= 5; persons++) {
            GrudgeTown x = Check.town("p" + ";p".repeat(persons - 1));
            for (int one = -1; one <= 6; one++) {
                for (int other = -1; other <= 6; other++) {
                    boolean fine = one >= 0 && other >= 0 && one < persons && other < persons && one != other;
                    Check.due("P20 weighs(" + one + ", " + other + ") of " + persons, x.weighs(one, other),
                            fine ? 6 : NONE);
                }
            }
            for (int far : Check.FAR) {
                Check.due("P20 weighs(0, " + far + ")", x.weighs(0, far), NONE);
                Check.due("P20 weighs(" + far + ", 0)", x.weighs(far, 0), NONE);
            }
        }
    }

    private static void worth(String law, int want) {
        GrudgeTown x = Check.town("p;p");
        Check.law(x, law);
        Check.due("P20 weighs by " + law, x.weighs(0, 1), want);
        x.offends(0, 1);
        Check.due("P11 heavy by " + law, x.grudge(0, 2), want);
    }

    private static int faultOf(String text) {
        return Check.faultOf(new GrudgeTown(), 1, text);
    }

    private static void law(String text, int want) {
        Check.due("P4 law " + text, faultOf(text), want);
    }
}
