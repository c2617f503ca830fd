/** Promises 2 to 18 as README.md shows them: the answers that it writes behind its calls. */
public final class ReadmeTest {
    private ReadmeTest() {
    }

    public static void main(String[] args) {
        firstExample();
        townOfThree();
        lawOfTwoClauses();
        Check.finish();
    }

    private static void firstExample() {
        GrudgeTown town = new GrudgeTown();
        Check.due("P2 feed", town.feed(0x703b703b, 0x67000000, 0, 0, 0), 5);
        Check.due("P4 fault", town.fault(0), -1);
        Check.due("P5 text", town.text(0), 2);
        Check.due("P21 stays", town.stays(1), 1);
        Check.due("P11 offends", town.offends(0, 1), 1);
        Check.due("P21 stays", town.stays(1), 5);
        Check.due("P10 days", town.days(3), 3);
        Check.due("P8 grudge", town.grudge(0, 2), 3);
        Check.due("P18 undo", town.undo(), 3);
    }

    private static void feed(GrudgeTown town, String text) {
        int[] numbers = new int[5];
        for (int at = 0; at < text.length(); at += 20) {
            for (int i = 0; i < 20; i++) {
                int next = at + i < text.length() ? text.charAt(at + i) : 0;
                numbers[i / 4] = numbers[i / 4] << 8 | next;
            }
            town.feed(numbers[0], numbers[1], numbers[2], numbers[3], numbers[4]);
        }
    }

    private static GrudgeTown three() {
        GrudgeTown town = new GrudgeTown();
        feed(town, "sf2k9;pt5l1;pl9;p;ga1w7;go1a0w5k2");
        Check.due("P5 persons", town.text(0), 3);
        return town;
    }

    private static void townOfThree() {
        GrudgeTown town = three();
        Check.due("P6 fade by 2", town.rule(0), 2);
        Check.due("P6 nine coins", town.rule(1), 9);
        int[][] grudges = {{0, 1, 7, 0}, {1, 0, 5, 2}};
        for (int grudge = 0; grudge < 2; grudge++) {
            for (int what = 0; what < 4; what++) {
                Check.due("P8 grudge(" + grudge + ", " + what + ")", town.grudge(grudge, what), grudges[grudge][what]);
            }
        }
        Check.due("P36 told grudges", town.count(1), 2);
    }

    private static void lawOfTwoClauses() {
        GrudgeTown town = three();
        feed(town, "y:n>2?[t+l]*2;y:t+1");
        Check.due("P5 the law's number", town.text(1), 0);
        Check.due("P20 without it", town.weighs(1, 0), 7);
        Check.due("P9 it holds", town.law(0), true);
        Check.due("P20 one grudge against him", town.weighs(1, 0), 6);
        town.offends(1, 0);
        Check.due("P20 two", town.weighs(1, 0), 6);
        town.offends(1, 0);
        Check.due("P20 three", town.weighs(1, 0), 28);
    }
}
