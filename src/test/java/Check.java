import java.nio.charset.StandardCharsets;
import java.util.NoSuchElementException;

/** What the tests share: feeding texts, counting answers that are not due. */
final class Check {
    /** Numbers far out of every bound, and some that wrap around when something is added or taken away. */
    static final int[] FAR = {Integer.MIN_VALUE, Integer.MIN_VALUE + 1, -1000001, -1000000, -65536, -256, -2,
        1000, 65536, 1000000, Integer.MAX_VALUE - 1000, Integer.MAX_VALUE - 1, Integer.MAX_VALUE};

    private static int wrong = 0;
    private static int asked = 0;

    private Check() {
    }

    static void due(String call, long got, long want) {
        asked++;
        if (got != want) {
            wrong++;
            System.out.println(call + " answered " + got + ", due is " + want);
        }
    }

    static void due(String call, boolean got, boolean want) {
        due(call, got ? 1L : 0L, want ? 1L : 0L);
    }

    /** Due is that person(..) throws NoSuchElementException. */
    static void dueThrows(String call, GrudgeTown town, int person, int what) {
        asked++;
        try {
            int got = town.person(person, what);
            wrong++;
            System.out.println(call + " answered " + got + ", due is NoSuchElementException");
        } catch (NoSuchElementException e) {
            return;
        }
    }

    static void feed(GrudgeTown town, String text) {
        byte[] bytes = text.getBytes(StandardCharsets.ISO_8859_1);
        int[] numbers = new int[5];
        for (int at = 0; at < bytes.length; at += 20) {
            for (int i = 0; i < 20; i++) {
                int next = at + i < bytes.length ? bytes[at + i] & 255 : 0;
                numbers[i / 4] = numbers[i / 4] << 8 | next;
            }
            town.feed(numbers[0], numbers[1], numbers[2], numbers[3], numbers[4]);
        }
    }

    /** A new object with a town of this text. */
    static GrudgeTown town(String text) {
        GrudgeTown town = new GrudgeTown();
        feed(town, text);
        if (town.text(0) == GrudgeTown.NONE) {
            wrong++;
            System.out.println("no town: " + text);
        }
        return town;
    }

    /** Tells a law and has it hold. */
    static int law(GrudgeTown town, String text) {
        town.end(0);
        feed(town, text);
        int law = town.text(1);
        if (law == GrudgeTown.NONE || !town.law(law)) {
            wrong++;
            System.out.println("no law: " + text);
        }
        return law;
    }

    static int faultOf(GrudgeTown town, int sort, String text) {
        town.end(0);
        feed(town, text);
        return town.fault(sort);
    }

    static void finish() {
        System.out.println(asked + " answers, " + wrong + " not as due");
        if (wrong != 0 || asked == 0) {
            System.exit(1);
        }
    }
}
