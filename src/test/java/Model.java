import java.util.ArrayList;
import java.util.List;
import java.util.TreeSet;

/**
 * The document once more, as plainly as can be and with nothing shared with the class: things that never change, lists,
 * every row and every run of chances tried.
 */
final class Model {
    record Grudge(int holder, int against, int heavy, int kind) {
        Grudge weighing(int other) {
            return new Grudge(holder, against, other, kind);
        }
    }

    record Row(int went, int heavy, int inTown) {
    }

    /** Grudges by places (null: none), who is in town, coins, the day, the log (the latest first). */
    record World(List<Grudge> places, TreeSet<Integer> in, int coins, int day, List<Row> log) {
        World copy() {
            return new World(new ArrayList<>(places), new TreeSet<>(in), coins, day, new ArrayList<>(log));
        }
    }

    interface Law {
        /** The worth by letters t l n m s d. */
        int worth(int[] letters);
    }

    final int persons;
    final int[] temper;
    final int[] liked;
    final int fade;
    final World told;
    final int toldGrudges;
    World now;
    Law law = null;
    int mercy = 2;
    final int[] status = new int[5];
    final List<World> before = new ArrayList<>();
    World image = null;
    final List<int[]> seen = new ArrayList<>();

    Model(int[] temper, int[] liked, int fade, int coins, List<Grudge> grudges) {
        this.persons = temper.length;
        this.temper = temper;
        this.liked = liked;
        this.fade = fade;
        this.toldGrudges = grudges.size();
        List<Grudge> places = new ArrayList<>(grudges);
        while (places.size() < 12) {
            places.add(null);
        }
        TreeSet<Integer> in = new TreeSet<>();
        for (int i = 0; i < persons; i++) {
            in.add(i);
        }
        told = new World(places, in, coins, 0, new ArrayList<>());
        now = told.copy();
    }

    boolean isPerson(int person) {
        return person >= 0 && person < persons;
    }

    private boolean isGrudge(int place) {
        return place >= 0 && place < 12 && now.places.get(place) != null;
    }

    static int bits(Iterable<Integer> numbers) {
        int found = 0;
        for (int i : numbers) {
            found |= 1 << i;
        }
        return found;
    }

    static int heavy(World w) {
        int found = 0;
        for (Grudge g : w.places) {
            found += g == null ? 0 : 1;
        }
        return found;
    }

    World sunset(World w, int fading) {
        World then = w.copy();
        for (int i = 0; i < 12; i++) {
            Grudge g = then.places.get(i);
            if (g != null && g.kind != 1) {
                then.places.set(i, g.heavy > fading ? g.weighing(g.heavy - fading) : null);
            }
        }
        TreeSet<Integer> going = new TreeSet<>();
        for (int p : then.in) {
            boolean kept = false;
            for (Grudge g : then.places) {
                kept = kept || g != null && g.against == p && then.in.contains(g.holder);
            }
            if (!kept) {
                going.add(p);
            }
        }
        then.in.removeAll(going);
        for (int i = 0; i < 12; i++) {
            Grudge g = then.places.get(i);
            if (g != null && g.kind == 2 && going.contains(g.holder)) {
                TreeSet<Integer> heirs = new TreeSet<>(then.in);
                heirs.remove(g.against);
                then.places.set(i, heirs.isEmpty() ? null : new Grudge(heirs.first(), g.against, g.heavy, 2));
            }
        }
        List<Row> log = new ArrayList<>(then.log);
        log.add(0, new Row(bits(going), heavy(then), bits(then.in)));
        if (log.size() > 60) {
            log.remove(60);
        }
        return new World(then.places, then.in, Math.min(999, w.coins + 1), w.day + 1, log);
    }

    World sunsets(World w, int n) {
        World then = w;
        for (int i = 0; i < n; i++) {
            then = sunset(then, fade);
        }
        return then;
    }

    int weight(World w, int one, int other) {
        if (law == null) {
            return temper[other] + 2;
        }
        int n = 0;
        int m = 0;
        for (Grudge g : w.places) {
            n += g != null && g.against == one ? 1 : 0;
            m += g != null && g.holder == other ? 1 : 0;
        }
        int worth = law.worth(new int[] {temper[other], liked[one], n, m, w.in.contains(one) ? 1 : 0, w.day});
        return worth < 1 ? 1 : worth > 30 ? 30 : worth;
    }

    /** As it is if one offended another, null if he can't. */
    World offence(World w, int one, int other) {
        int place = w.places.indexOf(null);
        if (one == other || place < 0 || !w.in.contains(other)) {
            return null;
        }
        World then = w.copy();
        then.places.set(place, new Grudge(other, one, weight(w, one, other), 0));
        then.in.add(one);
        return then;
    }

    private World forgiven(World w, int place) {
        World then = w.copy();
        then.places.set(place, null);
        return then;
    }

    private void act(World then) {
        before.add(now);
        if (before.size() > 40) {
            before.remove(0);
        }
        now = then;
    }

    private int refuse(int why) {
        status[why]++;
        return -1;
    }

    private World withCoins(World w, int coins) {
        return new World(w.places, w.in, coins, w.day, w.log);
    }

    int days(int n) {
        if (n < 1 || n > 60) {
            return refuse(1);
        }
        if (now.day + n > 999) {
            return refuse(4);
        }
        for (int i = 0; i < n; i++) {
            act(sunset(now, fade));
        }
        return now.day;
    }

    int offends(int one, int other) {
        if (!isPerson(one) || !isPerson(other)) {
            return refuse(0);
        }
        if (one == other) {
            return refuse(1);
        }
        if (!now.in.contains(other)) {
            return refuse(2);
        }
        int place = now.places.indexOf(null);
        if (now.coins == 0 || place < 0) {
            return refuse(3);
        }
        World then = offence(now, one, other);
        act(withCoins(then, now.coins - 1));
        return place;
    }

    int forgives(int place) {
        if (!isGrudge(place)) {
            return refuse(0);
        }
        Grudge g = now.places.get(place);
        if (!now.in.contains(g.holder)) {
            return refuse(2);
        }
        act(forgiven(now, place));
        return Integer.bitCount(against(g.against));
    }

    int becomes(int place, int kind) {
        if (!isGrudge(place)) {
            return refuse(0);
        }
        Grudge g = now.places.get(place);
        if (kind < 0 || kind > 2) {
            return refuse(1);
        }
        if (kind == g.kind) {
            return refuse(2);
        }
        if (now.coins < 2) {
            return refuse(3);
        }
        World then = now.copy();
        then.places.set(place, new Grudge(g.holder, g.against, g.heavy, kind));
        act(withCoins(then, now.coins - 2));
        return g.kind;
    }

    int give(int n) {
        if (n < 1 || n > 50 || now.coins + n > 999) {
            return refuse(1);
        }
        act(withCoins(now.copy(), now.coins + n));
        return now.coins;
    }

    boolean mercy(int v) {
        if (v < 0 || v > 9 || v == mercy) {
            return false;
        }
        mercy = v;
        return true;
    }

    int years(int n, long seed) {
        if (n < 1 || n > 60 || now.day + n > 999) {
            return -1;
        }
        long[] x = {seed};
        for (int i = 0; i < n; i++) {
            World then = now;
            int one = draw(x, persons);
            int other = draw(x, persons);
            World offended = offence(then, one, other);
            then = offended == null ? then : offended;
            if (draw(x, 10) < mercy) {
                int place = draw(x, 12);
                Grudge g = then.places.get(place);
                if (g != null && then.in.contains(g.holder)) {
                    then = forgiven(then, place);
                }
            }
            act(sunset(then, fade));
        }
        return now.day;
    }

    private static int draw(long[] x, int j) {
        x[0] = x[0] * 6364136223846793005L + 1442695040888963407L;
        return (int) ((x[0] >>> 33) % j);
    }

    int undo() {
        if (before.isEmpty()) {
            return -1;
        }
        now = before.remove(before.size() - 1);
        return before.size();
    }

    int image() {
        image = now.copy();
        return now.day;
    }

    int back() {
        if (image == null) {
            return -1;
        }
        now = image.copy();
        before.clear();
        return now.day;
    }

    int log(int i, int what) {
        if (i < 0 || i >= now.log.size() || what < 0 || what > 2) {
            return -1;
        }
        Row row = now.log.get(i);
        return what == 0 ? row.went : what == 1 ? row.heavy : row.inTown;
    }

    int against(int person) {
        TreeSet<Integer> found = new TreeSet<>();
        for (int i = 0; i < 12; i++) {
            if (now.places.get(i) != null && now.places.get(i).against == person) {
                found.add(i);
            }
        }
        return bits(found);
    }

    int of(int person) {
        TreeSet<Integer> found = new TreeSet<>();
        for (int i = 0; i < 12; i++) {
            if (now.places.get(i) != null && now.places.get(i).holder == person) {
                found.add(i);
            }
        }
        return bits(found);
    }

    int burden(int person) {
        int sum = 0;
        for (Grudge g : now.places) {
            sum += g != null && g.against == person && now.in.contains(g.holder) ? g.heavy : 0;
        }
        return sum;
    }

    int person(int person, int what) {
        switch (what) {
            case 0: return temper[person];
            case 1: return liked[person];
            case 2: return now.in.contains(person) ? 1 : 0;
            case 3: return against(person);
            case 4: return of(person);
            default: return burden(person);
        }
    }

    int grudge(int place, int what) {
        if (!isGrudge(place) || what < 0 || what > 3) {
            return -1;
        }
        Grudge g = now.places.get(place);
        return new int[] {g.holder, g.against, g.heavy, g.kind}[what];
    }

    int weighs(int one, int other) {
        return isPerson(one) && isPerson(other) && one != other ? weight(now, one, other) : -1;
    }

    int staysFrom(World w, int person) {
        int found = 0;
        for (int n = 1; n <= 99; n++) {
            w = sunset(w, fade);
            if (w.in.contains(person)) {
                found = n;
            }
        }
        return found;
    }

    int stays(int person) {
        return !isPerson(person) ? -1 : !now.in.contains(person) ? 0 : staysFrom(now, person);
    }

    int empty() {
        World w = now;
        for (int n = 0; n <= 99; n++) {
            if (w.in.isEmpty()) {
                return n;
            }
            w = sunset(w, fade);
        }
        return -1;
    }

    int fewest(int wanted, int n, int what) {
        if (wanted < 1 || wanted >= 1 << persons || n < 1 || n > 30 || what < 0 || what > 1) {
            return -1;
        }
        int best = -1;
        int fewest = 99;
        int rows = (int) Math.round(Math.pow(10, persons));
        for (int row = 0; row < rows; row++) {
            int offences = offencesOf(row, wanted, n);
            if (offences >= 0 && offences < fewest) {
                fewest = offences;
                best = row;
            }
        }
        return best < 0 ? -1 : what == 0 ? best : fewest;
    }

    /** How many offences a row has, -1 if it is no row, does not count or some of these go. */
    private int offencesOf(int row, int wanted, int n) {
        String digits = String.format("%0" + persons + "d", row);
        World w = now;
        int offences = 0;
        for (int i = 0; i < persons; i++) {
            int other = digits.charAt(i) - '0';
            if (other == 9) {
                continue;
            }
            if (other >= persons) {
                return -1;
            }
            w = offence(w, i, other);
            if (w == null) {
                return -1;
            }
            offences++;
        }
        for (int i = 0; i < n; i++) {
            w = sunset(w, fade);
            if ((bits(w.in) & wanted) != wanted) {
                return -1;
            }
        }
        return offences;
    }

    int rid(int person) {
        if (!isPerson(person) || !now.in.contains(person)) {
            return -1;
        }
        TreeSet<Integer> found = new TreeSet<>();
        for (int i = 0; i < 12; i++) {
            Grudge g = now.places.get(i);
            if (g != null && g.against == person && now.in.contains(g.holder) && (g.kind == 1 || g.heavy > fade)) {
                found.add(i);
            }
        }
        return bits(found);
    }

    int treaty(int one, int other) {
        if (!isPerson(one) || !isPerson(other) || one == other) {
            return -1;
        }
        boolean there = false;
        boolean here = false;
        for (Grudge g : now.places) {
            there = there || g != null && g.holder == one && g.against == other;
            here = here || g != null && g.holder == other && g.against == one;
        }
        return there && here ? 1 : 0;
    }

    int seen(int person, int n, boolean is) {
        if (!isPerson(person) || n < 1 || n > 30 || seen.size() == 10) {
            return -1;
        }
        seen.add(new int[] {person, n, is ? 1 : 0});
        return seen.size();
    }

    private World toldWith(int grudge, int heavy) {
        World w = told.copy();
        w.places.set(grudge, w.places.get(grudge).weighing(heavy));
        return w;
    }

    private List<Integer> fitting(int grudge) {
        List<Integer> found = new ArrayList<>();
        for (int heavy = 1; heavy <= 30; heavy++) {
            boolean fits = true;
            for (int[] s : seen) {
                fits = fits && sunsets(toldWith(grudge, heavy), s[1]).in.contains(s[0]) == (s[2] == 1);
            }
            if (fits) {
                found.add(heavy);
            }
        }
        return found;
    }

    int weights(int grudge, int i) {
        if (grudge < 0 || grudge >= toldGrudges) {
            return -1;
        }
        List<Integer> found = fitting(grudge);
        return i == -1 ? found.size() : i >= 0 && i < found.size() ? found.get(i) : -1;
    }

    int whom(int grudge, int n) {
        if (grudge < 0 || grudge >= toldGrudges || n < 1 || n > 30) {
            return -1;
        }
        int best = 99;
        int found = -1;
        List<Integer> fitting = fitting(grudge);
        for (int p = 0; p < persons && !fitting.isEmpty(); p++) {
            int is = 0;
            int not = 0;
            for (int heavy : fitting) {
                if (sunsets(toldWith(grudge, heavy), n).in.contains(p)) {
                    is++;
                } else {
                    not++;
                }
            }
            if (Math.abs(is - not) < best) {
                best = Math.abs(is - not);
                found = p;
            }
        }
        return found;
    }

    private World chosen(World w, int one, int other, int choice) {
        World then = choice == 1 ? offence(w, one, other) : w.copy();
        if (then == null) {
            return w;
        }
        for (int i = 0; i < 12 && choice == 2; i++) {
            Grudge g = then.places.get(i);
            if (g != null && g.holder == one && g.against == other) {
                then.places.set(i, null);
            }
        }
        return then;
    }

    private boolean inTown(int one, int other) {
        return isPerson(one) && isPerson(other) && one != other && now.in.contains(one) && now.in.contains(other);
    }

    int game(int one, int other, int x, int y, int what) {
        if (!inTown(one, other) || x < 0 || x > 2 || y < 0 || y > 2 || what < 0 || what > 1) {
            return -1000000;
        }
        World w = chosen(chosen(now, one, other, x), other, one, y);
        return Math.min(20, staysFrom(w, what == 0 ? one : other)) - ((what == 0 ? x : y) == 1 ? 2 : 0);
    }

    int rests(int one, int other, int i) {
        if (!inTown(one, other)) {
            return -1;
        }
        List<Integer> found = new ArrayList<>();
        for (int x = 0; x < 3; x++) {
            for (int y = 0; y < 3; y++) {
                boolean rest = true;
                for (int z = 0; z < 3; z++) {
                    rest = rest && game(one, other, z, y, 0) <= game(one, other, x, y, 0);
                    rest = rest && game(one, other, x, z, 1) <= game(one, other, x, y, 1);
                }
                if (rest) {
                    found.add(10 * x + y);
                }
            }
        }
        return i == -1 ? found.size() : i >= 0 && i < found.size() ? found.get(i) : -1;
    }

    int odds(int person, int n, int chance) {
        if (!isPerson(person) || n < 0 || n > 8 || chance < 0 || chance > 100) {
            return -1;
        }
        long sum = 0;
        for (int run = 0; run < 1 << n; run++) {
            long parts = 1000000000L;
            World w = now;
            for (int i = 0; i < n; i++) {
                boolean faster = (run >> i & 1) == 1;
                long more = parts * chance / 100;
                parts = faster ? more : parts - more;
                w = sunset(w, faster ? fade + 1 : fade);
            }
            sum += w.in.contains(person) ? parts : 0;
        }
        return (int) sum;
    }

    int shares(int person, int c) {
        if (!isPerson(person) || c < 0 || c > 999) {
            return -1;
        }
        int his = 0;
        int all = 0;
        for (Grudge g : now.places) {
            all += g == null ? 0 : g.heavy;
            his += g != null && g.against == person ? g.heavy : 0;
        }
        return all == 0 ? 0 : c * his / all;
    }

    int most(int what) {
        int best = -1;
        TreeSet<Integer> set = new TreeSet<>();
        switch (what) {
            case 0:
                for (int p : now.in) {
                    best = best < 0 || burden(p) > burden(best) ? p : best;
                }
                return best;
            case 1:
                for (int p : now.in) {
                    best = best < 0 || burden(p) < burden(best) ? p : best;
                }
                return best;
            case 2:
                for (int p = 0; p < persons; p++) {
                    best = best < 0 || Integer.bitCount(of(p)) > Integer.bitCount(of(best)) ? p : best;
                }
                return best;
            case 3:
                for (int p = 0; p < persons; p++) {
                    best = best < 0 || liked[p] > liked[best] ? p : best;
                }
                return best;
            case 4:
                for (int i = 0; i < 12; i++) {
                    best = grudge(i, 2) > 0 && (best < 0 || grudge(i, 2) > grudge(best, 2)) ? i : best;
                }
                return best;
            case 5:
                return bits(now.in);
            case 6:
                for (int i = 0; i < 12; i++) {
                    if (now.places.get(i) != null && now.in.contains(now.places.get(i).holder)) {
                        set.add(i);
                    }
                }
                return bits(set);
            case 7:
                for (int i = 0; i < 12; i++) {
                    Grudge g = now.places.get(i);
                    if (g != null && g.kind != 1 && g.heavy <= fade) {
                        set.add(i);
                    }
                }
                return bits(set);
            case 8:
                int sum = 0;
                for (Grudge g : now.places) {
                    sum += g == null ? 0 : g.heavy;
                }
                return sum;
            case 9:
                return 12 - heavy(now);
            case 10:
                int pairs = 0;
                for (int i = 0; i < persons; i++) {
                    for (int j = 0; j < i; j++) {
                        pairs += treaty(i, j);
                    }
                }
                return pairs;
            case 11:
                set.addAll(now.in);
                set.removeAll(sunset(now, fade).in);
                return bits(set);
            default:
                return -1;
        }
    }
}
