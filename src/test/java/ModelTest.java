import java.util.ArrayList;
import java.util.List;
import java.util.Random;

/** Promises 6 to 36: long runs of calls at random, each answer against the model's. */
public final class ModelTest {
    private static final int RUNS = 120;
    private static final int CALLS = 250;

    private final Random random;
    private final GrudgeTown town = new GrudgeTown();
    private final List<Model.Law> laws = new ArrayList<>();
    private Model model;
    private String said = "";

    private ModelTest(long seed) {
        random = new Random(seed);
    }

    public static void main(String[] args) {
        for (int run = 0; run < RUNS; run++) {
            new ModelTest(run).run();
        }
        Check.finish();
    }

    private void run() {
        for (int i = random.nextInt(4); i >= 0; i--) {
            tellLaw();
        }
        tellTown();
        for (int i = 0; i < CALLS; i++) {
            if (random.nextInt(100) == 0) {
                tellTown();
            } else if (random.nextInt(3) == 0) {
                act();
            } else {
                ask();
            }
        }
    }

    /** A number of 0 .. most, now and then one that is out of bounds by one. */
    private int upTo(int most) {
        int kind = random.nextInt(40);
        return kind == 0 ? -1 : kind == 1 ? most + 1 : random.nextInt(most + 1);
    }

    private int person() {
        return upTo(model.persons - 1);
    }

    private void due(String call, int got, int want) {
        Check.due(said + " .. " + call, got, want);
    }

    private String item(String letter, int value) {
        return letter + (random.nextInt(5) == 0 ? " " : "") + (value < 10 && random.nextInt(5) == 0 ? "0" : "") + value
            + (random.nextInt(5) == 0 ? " " : "");
    }

    private void tellTown() {
        int persons = 2 + random.nextInt(4);
        int[] temper = new int[persons];
        int[] liked = new int[persons];
        List<String> clauses = new ArrayList<>();
        for (int i = 0; i < persons; i++) {
            temper[i] = random.nextInt(10);
            liked[i] = random.nextInt(10);
            String t = temper[i] == 4 && random.nextBoolean() ? "" : item("t", temper[i]);
            String l = liked[i] == 3 && random.nextBoolean() ? "" : item("l", liked[i]);
            clauses.add("p" + (random.nextBoolean() ? t + l : l + t));
        }
        int fade = random.nextInt(3) == 0 ? random.nextInt(10) : random.nextInt(3);
        int coins = random.nextInt(3) == 0 ? random.nextInt(4) : random.nextInt(100);
        clauses.add(random.nextInt(clauses.size() + 1), "s" + item("f", fade) + item("k", coins));
        List<Model.Grudge> grudges = new ArrayList<>();
        int most = 9 - random.nextInt(9);
        int kinds = random.nextInt(4);
        int from = 0;
        for (int i = 0; i <= most; i++) {
            int holder = random.nextInt(persons);
            int against = (holder + 1 + random.nextInt(persons - 1)) % persons;
            int heavy = 1 + random.nextInt(random.nextBoolean() ? 30 : 8);
            int kind = kinds == 3 ? 0 : random.nextInt(kinds + 1);
            grudges.add(new Model.Grudge(holder, against, heavy, kind));
            String text = "g" + item("a", against) + item("w", heavy) + item("o", holder);
            from = from + random.nextInt(clauses.size() - from + 1);
            clauses.add(from, text + (kind == 0 ? "" : item("k", kind)));
            from++;
        }
        String text = String.join(";", clauses);
        if (text.length() > 240) {
            text = text.replace(" ", "").replaceAll("([a-z])0([0-9])", "$1$2");
        }
        town.end(0);
        Check.feed(town, text);
        said = text;
        due("fault(0)", town.fault(0), -1);
        due("text(0)", town.text(0), persons);
        Model next = new Model(temper, liked, fade, coins, grudges);
        if (model != null) {
            next.law = model.law;
            next.mercy = model.mercy;
            System.arraycopy(model.status, 0, next.status, 0, 5);
        }
        model = next;
    }

    private void tellLaw() {
        LawTexts.Told law = LawTexts.random(random);
        town.end(0);
        Check.feed(town, law.text());
        Check.due("fault(1) of " + law.text(), town.fault(1), -1);
        Check.due("text(1) of " + law.text(), town.text(1), laws.size());
        laws.add(law.worth());
    }

    private void act() {
        switch (random.nextInt(14)) {
            case 0: case 1: {
                int n = random.nextInt(12) == 0 ? upTo(61) : upTo(3);
                due("days " + n, town.days(n), model.days(n));
                break;
            }
            case 2: case 3: case 4: case 5: {
                int one = person();
                int other = person();
                due("offends " + one + " " + other, town.offends(one, other), model.offends(one, other));
                break;
            }
            case 6: {
                int place = upTo(11);
                due("forgives " + place, town.forgives(place), model.forgives(place));
                break;
            }
            case 7: case 8: {
                int place = upTo(11);
                int kind = upTo(2);
                due("becomes " + place + " " + kind, town.becomes(place, kind), model.becomes(place, kind));
                break;
            }
            case 9: {
                int n = upTo(50);
                due("give " + n, town.give(n), model.give(n));
                break;
            }
            case 10: {
                int v = upTo(9);
                due("mercy " + v, town.mercy(v) ? 1 : 0, model.mercy(v) ? 1 : 0);
                break;
            }
            case 11: {
                int n = random.nextInt(6) == 0 ? upTo(60) : upTo(3);
                long seed = random.nextLong();
                due("years " + n + " " + seed, town.years(n, seed), model.years(n, seed));
                break;
            }
            case 12: {
                int law = random.nextInt(laws.size() + 1) - 1;
                due("law " + law, town.law(law) ? 1 : 0, 1);
                model.law = law < 0 ? null : laws.get(law);
                break;
            }
            default:
                remember();
        }
    }

    private void remember() {
        switch (random.nextInt(4)) {
            case 0:
                due("image", town.image(), model.image());
                break;
            case 1:
                due("back", town.back(), model.back());
                break;
            default:
                for (int i = random.nextInt(4) == 0 ? 40 : random.nextInt(3); i >= 0; i--) {
                    due("undo", town.undo(), model.undo());
                }
        }
    }

    private void ask() {
        switch (random.nextInt(22)) {
            case 0: case 1: {
                int p = random.nextInt(model.persons);
                int what = random.nextInt(6);
                due("person " + p + " " + what, town.person(p, what), model.person(p, what));
                break;
            }
            case 2: case 3: {
                int place = upTo(11);
                int what = upTo(3);
                due("grudge " + place + " " + what, town.grudge(place, what), model.grudge(place, what));
                break;
            }
            case 4: {
                int i = upTo(random.nextBoolean() ? 59 : 3);
                int what = upTo(2);
                due("log " + i + " " + what, town.log(i, what), model.log(i, what));
                break;
            }
            case 5: {
                int one = person();
                int other = person();
                due("weighs " + one + " " + other, town.weighs(one, other), model.weighs(one, other));
                due("treaty " + one + " " + other, town.treaty(one, other), model.treaty(one, other));
                break;
            }
            case 6: {
                int p = person();
                due("stays " + p, town.stays(p), model.stays(p));
                due("rid " + p, town.rid(p), model.rid(p));
                break;
            }
            case 7:
                due("empty", town.empty(), model.empty());
                break;
            case 8: {
                // The model tries every row of five digits: seldom.
                if (model.persons == 5 && random.nextInt(10) != 0) {
                    break;
                }
                int wanted = random.nextInt(20) == 0 ? upTo(32) : 1 + random.nextInt((1 << model.persons) - 1);
                int n = random.nextInt(3) == 0 ? upTo(30) : upTo(8);
                int what = upTo(1);
                due("fewest " + wanted + " " + n + " " + what, town.fewest(wanted, n, what), model.fewest(wanted, n, what));
                break;
            }
            case 9: {
                int p = person();
                int n = upTo(30);
                boolean is = model.isPerson(p) && n > 0 && random.nextInt(5) > 0
                    ? model.sunsets(model.told, n).in().contains(p) : random.nextBoolean();
                due("seen " + p + " " + n + " " + is, town.seen(p, n, is), model.seen(p, n, is));
                break;
            }
            case 10: {
                int g = upTo(model.toldGrudges - 1);
                int i = upTo(9);
                due("weights " + g + " " + i, town.weights(g, i), model.weights(g, i));
                due("weights " + g + " -1", town.weights(g, -1), model.weights(g, -1));
                break;
            }
            case 11: {
                int g = upTo(model.toldGrudges - 1);
                int n = upTo(30);
                due("whom " + g + " " + n, town.whom(g, n), model.whom(g, n));
                break;
            }
            case 12: case 13: {
                int one = person();
                int other = person();
                int x = upTo(2);
                int y = upTo(2);
                int what = upTo(1);
                due("game " + one + " " + other + " " + x + " " + y + " " + what, town.game(one, other, x, y, what),
                    model.game(one, other, x, y, what));
                break;
            }
            case 14: {
                int one = person();
                int other = person();
                int i = upTo(4);
                due("rests " + one + " " + other + " " + i, town.rests(one, other, i), model.rests(one, other, i));
                due("rests " + one + " " + other + " -1", town.rests(one, other, -1), model.rests(one, other, -1));
                break;
            }
            case 15: {
                int p = person();
                int n = upTo(8);
                int chance = upTo(100);
                due("odds " + p + " " + n + " " + chance, town.odds(p, n, chance), model.odds(p, n, chance));
                break;
            }
            case 16: {
                int p = person();
                int c = upTo(999);
                due("shares " + p + " " + c, town.shares(p, c), model.shares(p, c));
                break;
            }
            case 17: {
                int what = upTo(4);
                due("status " + what, town.status(what), what < 0 || what > 4 ? -1 : model.status[what]);
                due("rule 0", town.rule(0), model.fade);
                due("rule 1", town.rule(1), model.now.coins());
                break;
            }
            case 18:
                due("count 0", town.count(0), model.persons);
                due("count 1", town.count(1), model.toldGrudges);
                due("count 2", town.count(2), laws.size());
                due("count 5", town.count(5), model.now.day());
                due("count 6", town.count(6), Model.heavy(model.now));
                due("count 7", town.count(7), model.mercy);
                due("count 8", town.count(8), model.seen.size());
                due("count 9", town.count(9), model.now.log().size());
                due("count 10", town.count(10), model.before.size());
                break;
            default: {
                int what = upTo(11);
                due("most " + what, town.most(what), model.most(what));
            }
        }
    }
}
