import java.util.Random;

/** Laws at random, each as a text and as what it is worth. */
final class LawTexts {
    record Told(String text, Model.Law worth) {
    }

    private interface Sum {
        long value(int[] letters);
    }

    private record SumText(String text, Sum sum) {
    }

    private interface Truth {
        boolean holds(int[] letters);
    }

    private record TruthText(String text, Truth truth) {
    }

    private static final int LONGEST = 120;

    private final Random random;

    private LawTexts(Random random) {
        this.random = random;
    }

    static Told random(Random random) {
        LawTexts texts = new LawTexts(random);
        Told told = texts.law();
        while (told.text.length() > LONGEST) {
            told = texts.law();
        }
        return told;
    }

    private String blank() {
        return random.nextInt(8) == 0 ? " " : "";
    }

    private static long bounded(long value) {
        return value > 1000000 ? 1000000 : value < -1000000 ? -1000000 : value;
    }

    private Told law() {
        int clauses = 1 + random.nextInt(4);
        StringBuilder text = new StringBuilder();
        Truth[] truths = new Truth[clauses];
        Sum[] sums = new Sum[clauses];
        for (int i = 0; i < clauses; i++) {
            text.append(i == 0 ? blank() : ";" + blank()).append("y").append(blank()).append(":").append(blank());
            truths[i] = letters -> true;
            if (random.nextInt(5) > 0) {
                TruthText condition = condition(0);
                text.append(condition.text).append("?").append(blank());
                truths[i] = condition.truth;
            }
            SumText sum = sum(0);
            text.append(sum.text);
            sums[i] = sum.sum;
        }
        return new Told(text.toString(), letters -> {
            for (int i = 0; i < clauses; i++) {
                if (truths[i].holds(letters)) {
                    return (int) sums[i].value(letters);
                }
            }
            return 0;
        });
    }

    private TruthText condition(int depth) {
        TruthText left = truth(depth);
        if (random.nextInt(4) > 0) {
            return left;
        }
        TruthText right = truth(depth);
        return new TruthText(left.text + "|" + blank() + right.text,
            letters -> left.truth.holds(letters) || right.truth.holds(letters));
    }

    private TruthText truth(int depth) {
        TruthText left = unit(depth);
        if (random.nextInt(4) > 0) {
            return left;
        }
        TruthText right = unit(depth);
        return new TruthText(left.text + "&" + blank() + right.text,
            letters -> left.truth.holds(letters) && right.truth.holds(letters));
    }

    private TruthText unit(int depth) {
        int kind = depth < 6 ? random.nextInt(6) : 5;
        if (kind == 0) {
            TruthText inner = unit(depth + 1);
            return new TruthText("!" + blank() + inner.text, letters -> !inner.truth.holds(letters));
        }
        if (kind == 1) {
            TruthText inner = condition(depth + 1);
            return new TruthText("(" + blank() + inner.text + ")" + blank(), inner.truth);
        }
        SumText left = sum(depth);
        SumText right = sum(depth);
        int relation = random.nextInt(3);
        return new TruthText(left.text + "=<>".charAt(relation) + blank() + right.text, letters -> {
            int compared = Long.compare(left.sum.value(letters), right.sum.value(letters));
            return relation == 0 ? compared == 0 : relation == 1 ? compared < 0 : compared > 0;
        });
    }

    private SumText sum(int depth) {
        SumText left = term(depth);
        for (int i = 0; i < 3 && random.nextInt(3) == 0; i++) {
            SumText ahead = left;
            SumText right = term(depth);
            boolean plus = random.nextBoolean();
            left = new SumText(ahead.text + (plus ? "+" : "-") + blank() + right.text, letters -> bounded(
                plus ? ahead.sum.value(letters) + right.sum.value(letters)
                    : ahead.sum.value(letters) - right.sum.value(letters)));
        }
        return left;
    }

    private SumText term(int depth) {
        SumText left = atom(depth);
        for (int i = 0; i < 3 && random.nextInt(3) == 0; i++) {
            SumText ahead = left;
            SumText right = atom(depth);
            boolean times = random.nextBoolean();
            left = new SumText(ahead.text + (times ? "*" : "/") + blank() + right.text, letters -> {
                long a = ahead.sum.value(letters);
                long b = right.sum.value(letters);
                return times ? bounded(a * b) : b == 0 ? 0 : a / b;
            });
        }
        return left;
    }

    private SumText atom(int depth) {
        int kind = random.nextInt(depth < 6 ? 8 : 7);
        if (kind == 7) {
            SumText inner = sum(depth + 1);
            return new SumText("[" + blank() + inner.text + "]" + blank(), inner.sum);
        }
        if (kind > 2) {
            int letter = random.nextInt(6);
            return new SumText("tlnmsd".charAt(letter) + blank(), letters -> letters[letter]);
        }
        int value = random.nextInt(kind == 0 ? 10000 : 20);
        String zeros = value < 10 && random.nextInt(9) == 0 ? "000" : "";
        return new SumText(zeros + value + blank(), letters -> value);
    }
}
