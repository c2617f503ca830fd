import java.util.Map;
import java.util.Random;
import java.util.TreeSet;
import java.util.regex.Matcher;
import java.util.regex.Pattern;

/** Promise 4: faults of texts with some bytes spoilt, against what the words of the document say, read another way. */
public final class FaultTest {
    private static final String SUM = "\\d(?:[-+*/]\\d)*";
    private static final Pattern BRACKETS = Pattern.compile("\\[(" + SUM + ")\\]");
    private static final Pattern COMPARISON = Pattern.compile(SUM + "[=<>]" + SUM);
    private static final Pattern NOT = Pattern.compile("!([A-G])");
    private static final Pattern PARENTHESES = Pattern.compile("\\(([A-G](?:[&|][A-G])*)\\)");
    private static final Pattern CLAUSE = Pattern.compile("y:(?:[A-G](?:[&|][A-G])*\\?)?" + SUM);

    private static final String LAW_SIGNS = "y::;??|&!!(())[[]]=<>+-*/tlnmsd0123456789  x";
    private static final String TOWN_SIGNS = "sppgg;;;fktloawk0012345678999  x";

    public static void main(String[] args) {
        knownLaws();
        spoiltLaws();
        spoiltTowns();
        Check.finish();
    }

    private static void knownLaws() {
        Check.due("whole", isLaw("y:!(!(![1]=1))?1") ? 1 : 0, 1);
        Check.due("too deep", isLaw("y:[[[[[[[1]]]]]]]") ? 1 : 0, 0);
        Check.due("fault", lawFault("y:t=1;"), 5);
    }

    private static void spoiltLaws() {
        Random random = new Random(7);
        GrudgeTown town = new GrudgeTown();
        for (int i = 0; i < 500; i++) {
            if (i % 100 == 0) {
                town = new GrudgeTown();
            }
            String text = LawTexts.random(random).text();
            if (text.length() > 60) {
                continue;
            }
            for (int j = random.nextInt(3); j >= 0; j--) {
                text = spoilt(random, text, LAW_SIGNS);
            }
            Check.due("law " + text, Check.faultOf(town, 1, text), lawFault(text));
        }
    }

    private static void spoiltTowns() {
        Random random = new Random(8);
        String[] towns = {"p;p", "sf1k20;pt4l3;p;ga1o0w6k2;g", "p;p;p;p;p;ga4;go3w30", "g;gw9o1a0;p;p;s", " s f 1;p t 4 ; p l 0;g",
            "p;p;p;p;g;g;g;g;g;g;g;g;g", "gk1a2;p;p;p;gk2o1a2w10;go2"};
        GrudgeTown town = new GrudgeTown();
        for (int i = 0; i < 20000; i++) {
            if (i % 100 == 0) {
                town = new GrudgeTown();
            }
            String text = towns[random.nextInt(towns.length)];
            for (int j = random.nextInt(4); j >= 0; j--) {
                text = spoilt(random, text, TOWN_SIGNS);
            }
            Check.due("town " + text, Check.faultOf(town, 0, text), townFault(text));
        }
    }

    private static String spoilt(Random random, String text, String signs) {
        int at = random.nextInt(text.length() + 1);
        String sign = String.valueOf(signs.charAt(random.nextInt(signs.length())));
        int kind = random.nextInt(4);
        if (kind == 0 || at == text.length()) {
            return text.substring(0, at) + sign + text.substring(at);
        }
        if (kind == 1) {
            return text.substring(0, at) + text.substring(at + 1);
        }
        if (kind == 2) {
            return text.substring(0, at) + sign + text.substring(at + 1);
        }
        int to = Math.min(text.length(), at + 1 + random.nextInt(5));
        return text.substring(0, to) + text.substring(at);
    }

    // ---- laws: the first byte behind which nothing makes a whole law of it

    private static int lawFault(String text) {
        for (int i = 1; i <= text.length(); i++) {
            if (!canGoOn(text.substring(0, i))) {
                return i - 1;
            }
        }
        return isLaw(text) ? -1 : text.length();
    }

    private static boolean canGoOn(String start) {
        for (String first : new String[] {"", "0", "0=0", ":0", "y:0"}) {
            for (int brackets = 0; brackets <= 6; brackets++) {
                for (String middle : new String[] {"", "=0"}) {
                    for (int parentheses = 0; parentheses <= 6; parentheses++) {
                        String most = start + first + "]".repeat(brackets) + middle + ")".repeat(parentheses);
                        if (isLaw(most) || isLaw(most + "?0")) {
                            return true;
                        }
                    }
                }
            }
        }
        return false;
    }

    /** Whether all of it is a law: sums and truths are made one sign each, which tells how deep they are. */
    private static boolean isLaw(String text) {
        if (Pattern.compile("\\d{5}|[^-0-9y:;?|&!()\\[\\]=<>+*/tlnmsd ]").matcher(text).find()) {
            return false;
        }
        String signs = text.replaceAll("\\d+|[tlnmsd]", "0").replace(" ", "");
        for (String clause : signs.split(";", -1)) {
            String reduced = reduced(clause, BRACKETS, '0', '6', 1);
            reduced = reduced(reduced, COMPARISON, '0', '6', 'A' - '0');
            for (int i = 0; i < 100; i++) {
                reduced = reduced(reduced, NOT, 'A', 'G', 1);
                reduced = reduced(reduced, PARENTHESES, 'A', 'G', 1);
                if (!NOT.matcher(reduced).find() && !PARENTHESES.matcher(reduced).find()) {
                    break;
                }
            }
            if (!CLAUSE.matcher(reduced).matches()) {
                return false;
            }
        }
        return true;
    }

    /** All that the pattern finds, again and again, as one sign: the deepest of its own, so much more. */
    private static String reduced(String text, Pattern pattern, char least, char most, int more) {
        String now = text;
        Matcher found = pattern.matcher(now);
        while (found.find()) {
            char deepest = least;
            for (char sign : found.group().toCharArray()) {
                deepest = sign >= least && sign <= most && sign > deepest ? sign : deepest;
            }
            if (more == 1 && deepest == most) {
                return "too deep";
            }
            now = now.substring(0, found.start()) + (char) (deepest + more) + now.substring(found.end());
            found = pattern.matcher(now);
        }
        return now;
    }

    // ---- towns: token by token

    private static int townFault(String text) {
        Map<Character, String> letters = Map.of('s', "fk", 'p', "tl", 'g', "oawk");
        Map<String, int[]> bounds = Map.of("sf", new int[] {0, 9}, "sk", new int[] {0, 99}, "pt", new int[] {0, 9}, "pl",
            new int[] {0, 9}, "go", new int[] {0, 4}, "ga", new int[] {0, 4}, "gw", new int[] {1, 30}, "gk", new int[] {0, 2});
        Map<Character, Integer> most = Map.of('s', 1, 'p', 5, 'g', 10);
        StringBuilder clauses = new StringBuilder();
        StringBuilder had = new StringBuilder();
        TreeSet<Integer> named = new TreeSet<>();
        boolean himself = false;
        int o = 0;
        int a = 1;
        char waiting = ';';
        Matcher token = Pattern.compile("[0-9]+|[^ ]", Pattern.DOTALL).matcher(text);
        while (token.find()) {
            char sign = token.group().charAt(0);
            boolean isNumber = Character.isDigit(sign);
            if (waiting == ';') {
                long before = clauses.chars().filter(c -> c == sign).count();
                if (!letters.containsKey(sign) || before == most.get(sign)) {
                    return token.start();
                }
                clauses.append(sign);
                had.setLength(0);
                o = 0;
                a = 1;
                waiting = 0;
            } else if (waiting != 0) {
                if (!isNumber) {
                    return token.start();
                }
                if (token.group().length() > 2) {
                    return token.start() + 2;
                }
                int value = Integer.parseInt(token.group());
                int[] bound = bounds.get("" + clauses.charAt(clauses.length() - 1) + waiting);
                if (value < bound[0] || value > bound[1]) {
                    return token.end() - 1;
                }
                o = waiting == 'o' ? value : o;
                a = waiting == 'a' ? value : a;
                waiting = 0;
            } else if (sign == ';') {
                if (clauses.charAt(clauses.length() - 1) == 'g') {
                    named.add(o);
                    named.add(a);
                    himself = himself || o == a;
                }
                waiting = ';';
            } else {
                char clause = clauses.charAt(clauses.length() - 1);
                if (letters.get(clause).indexOf(sign) < 0 || had.indexOf("" + sign) >= 0) {
                    return token.start();
                }
                had.append(sign);
                waiting = sign;
            }
        }
        if (waiting != 0) {
            return text.length();
        }
        if (clauses.charAt(clauses.length() - 1) == 'g') {
            named.add(o);
            named.add(a);
            himself = himself || o == a;
        }
        long persons = clauses.chars().filter(c -> c == 'p').count();
        boolean whole = persons >= 2 && !himself && (named.isEmpty() || named.last() < persons);
        return whole ? -1 : text.length();
    }
}
