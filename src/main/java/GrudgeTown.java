import java.util.NoSuchElementException;

/**
 * A town where one may live only under a grudge: whoever is forgiven must go.
 *
 * <p>What acts change is a {@link State}; what a text told of the town is a {@link Town}. Everything
 * that is reckoned apart runs on spare states, which are made once and used again.
 */
public final class GrudgeTown {
    public static final int NONE = -1;
    public static final int HIDDEN = -1000000;

    private static final int PERSONS_MOST = 5;
    private static final int TOLD_MOST = 10;
    private static final int PLACES = 12;
    private static final int TAPE_MOST = 240;
    private static final int LAWS_MOST = 4;
    private static final int SEEN_MOST = 10;

    private static final int PLAIN = 0;
    private static final int NEVER_SAID = 1;
    private static final int WILLED = 2;

    private static final int WEIGHT_MOST = 30;
    private static final int COINS_MOST = 999;
    private static final int DAY_LAST = 999;
    private static final int DAYS_MOST = 60;
    private static final int GIFT_MOST = 50;
    private static final int KIND_PRICE = 2;
    private static final int MERCY_MOST = 9;
    private static final int ACTS_MOST = 40;
    private static final int LOG_MOST = 60;

    private static final int LOOK_MOST = 30;
    private static final int STAYS_MOST = 99;
    private static final int NOBODY = 9;
    private static final int CHOICES = 3;
    private static final int OFFEND = 1;
    private static final int FORGIVE = 2;
    private static final int GAME_MOST = 20;
    private static final int ODDS_MOST = 8;
    private static final int PARTS = 1000000000;
    private static final int SHARED_MOST = 999;

    private static final int NO_SUCH = 0;
    private static final int OUT_OF_BOUNDS = 1;
    private static final int NOT_SO = 2;
    private static final int TOO_FEW = 3;
    private static final int TOO_LATE = 4;
    private static final int REASONS = 5;

    private static final int NO_SORT = -2;
    private static final int END = -1;
    private static final int BLANK = 32;

    private final Tape tape = new Tape();
    private final TownReader townReader = new TownReader();
    private final Town town = new Town();
    private final LawReader lawReader = new LawReader();
    private final Laws laws = new Laws();
    private final State now = new State();
    private final Log log = new Log();
    private final Acts acts = new Acts();
    private final State imageState = new State();
    private final Log imageLog = new Log();
    private final Sightings sightings = new Sightings();
    private final int[] refused = new int[REASONS];
    private final State[] apart = new State[ODDS_MOST + 1];
    private final int[] firstHas = new int[CHOICES * CHOICES];
    private final int[] secondHas = new int[CHOICES * CHOICES];
    private boolean hasImage = false;
    private int mercyNow = 2;

    public GrudgeTown() {
        for (int i = 0; i < apart.length; i++) {
            apart[i] = new State();
        }
    }

    // ---- the tape and its texts

    public int feed(int a, int b, int c, int d, int e) {
        int more = Tape.bytesIn(a) + Tape.bytesIn(b) + Tape.bytesIn(c) + Tape.bytesIn(d) + Tape.bytesIn(e);
        if (tape.length + more > TAPE_MOST) {
            return NONE;
        }
        tape.append(a);
        tape.append(b);
        tape.append(c);
        tape.append(d);
        tape.append(e);
        return tape.length;
    }

    public boolean end(int n) {
        if (n < 0 || n > tape.length) {
            return false;
        }
        tape.length = n;
        return true;
    }

    public int fault(int sort) {
        switch (sort) {
            case 0:
                return townReader.faultOf(tape.bytes, tape.length);
            case 1:
                return lawReader.faultOf(tape.bytes, tape.length);
            default:
                return NO_SORT;
        }
    }

    public int text(int sort) {
        switch (sort) {
            case 0:
                return tellTown();
            case 1:
                return tellLaw();
            default:
                return NONE;
        }
    }

    private int tellTown() {
        if (townReader.faultOf(tape.bytes, tape.length) != NONE) {
            return NONE;
        }
        town.copyFrom(townReader.draft);
        now.copyFrom(town.told);
        acts.forget();
        sightings.forget();
        hasImage = false;
        tape.length = 0;
        return town.persons;
    }

    private int tellLaw() {
        if (laws.told >= LAWS_MOST || lawReader.faultOf(tape.bytes, tape.length) != NONE) {
            return NONE;
        }
        int number = laws.keep(lawReader.code, lawReader.codeLength);
        tape.length = 0;
        return number;
    }

    // ---- what is so now

    public int rule(int what) {
        if (!hasTown()) {
            return NONE;
        }
        switch (what) {
            case 0:
                return town.fade;
            case 1:
                return now.coins;
            default:
                return NONE;
        }
    }

    public int person(int person, int what) throws NoSuchElementException {
        if (!isPerson(person)) {
            throw new NoSuchElementException("no such person");
        }
        switch (what) {
            case 0:
                return town.temper[person];
            case 1:
                return town.liked[person];
            case 2:
                return now.isIn(person) ? 1 : 0;
            case 3:
                return now.heavyAgainst(person);
            case 4:
                return now.heavyOf(person);
            case 5:
                return now.burdenOf(person);
            default:
                throw new NoSuchElementException("no such thing of a person");
        }
    }

    public int grudge(int grudge, int what) {
        if (!isGrudge(grudge)) {
            return NONE;
        }
        switch (what) {
            case 0:
                return now.holder[grudge];
            case 1:
                return now.against[grudge];
            case 2:
                return now.weight[grudge];
            case 3:
                return now.kind[grudge];
            default:
                return NONE;
        }
    }

    public boolean law(int law) {
        if (law < NONE || law >= laws.told) {
            return false;
        }
        laws.holding = law;
        return true;
    }

    public int status(int what) {
        return what < 0 || what >= REASONS ? NONE : refused[what];
    }

    public int log(int i, int what) {
        if (i < 0 || i >= logLength()) {
            return NONE;
        }
        return log.read(now.day - 1 - i, what);
    }

    public int count(int what) {
        switch (what) {
            case 0:
                return town.persons;
            case 1:
                return town.grudges;
            case 2:
                return laws.told;
            case 3:
                return tape.length;
            case 4:
                return laws.holding;
            case 5:
                return now.day;
            case 6:
                return Integer.bitCount(now.heavy());
            case 7:
                return mercyNow;
            case 8:
                return sightings.told;
            case 9:
                return logLength();
            case 10:
                return acts.kept;
            default:
                return HIDDEN;
        }
    }

    private boolean hasTown() {
        return town.persons > 0;
    }

    private boolean isPerson(int person) {
        return person >= 0 && person < town.persons;
    }

    private boolean areTwo(int one, int other) {
        return isPerson(one) && isPerson(other) && one != other;
    }

    private boolean areTwoInTown(int one, int other) {
        return areTwo(one, other) && now.isIn(one) && now.isIn(other);
    }

    private boolean isGrudge(int grudge) {
        return grudge >= 0 && grudge < PLACES && now.weight[grudge] > 0;
    }

    private boolean isToldGrudge(int grudge) {
        return grudge >= 0 && grudge < town.grudges;
    }

    // Each day writes one row, and undoing one takes its row back, so the day tells how many there were.
    private int logLength() {
        return Math.min(LOG_MOST, now.day);
    }

    // ---- acts

    public int days(int n) {
        if (!hasTown()) {
            return refuse(NO_SUCH);
        }
        if (n < 1 || n > DAYS_MOST) {
            return refuse(OUT_OF_BOUNDS);
        }
        if (now.day + n > DAY_LAST) {
            return refuse(TOO_LATE);
        }
        for (int i = 0; i < n; i++) {
            acts.keep(now);
            passDay();
        }
        return now.day;
    }

    public int offends(int one, int other) {
        if (!isPerson(one) || !isPerson(other)) {
            return refuse(NO_SUCH);
        }
        if (one == other) {
            return refuse(OUT_OF_BOUNDS);
        }
        if (!now.isIn(other)) {
            return refuse(NOT_SO);
        }
        if (now.coins < 1 || now.lowestFree() == NONE) {
            return refuse(TOO_FEW);
        }
        acts.keep(now);
        now.coins--;
        return offend(now, one, other);
    }

    public int forgives(int grudge) {
        if (!isGrudge(grudge)) {
            return refuse(NO_SUCH);
        }
        if (!now.isIn(now.holder[grudge])) {
            return refuse(NOT_SO);
        }
        acts.keep(now);
        now.weight[grudge] = 0;
        return Integer.bitCount(now.heavyAgainst(now.against[grudge]));
    }

    public int becomes(int grudge, int kind) {
        if (!isGrudge(grudge)) {
            return refuse(NO_SUCH);
        }
        if (kind < PLAIN || kind > WILLED) {
            return refuse(OUT_OF_BOUNDS);
        }
        int before = now.kind[grudge];
        if (kind == before) {
            return refuse(NOT_SO);
        }
        if (now.coins < KIND_PRICE) {
            return refuse(TOO_FEW);
        }
        acts.keep(now);
        now.coins -= KIND_PRICE;
        now.kind[grudge] = kind;
        return before;
    }

    public int give(int n) {
        if (!hasTown()) {
            return refuse(NO_SUCH);
        }
        if (n < 1 || n > GIFT_MOST || now.coins + n > COINS_MOST) {
            return refuse(OUT_OF_BOUNDS);
        }
        acts.keep(now);
        now.coins += n;
        return now.coins;
    }

    public boolean mercy(int v) {
        if (v < 0 || v > MERCY_MOST || v == mercyNow) {
            return false;
        }
        mercyNow = v;
        return true;
    }

    public int years(int n, long seed) {
        if (!hasTown() || n < 1 || n > DAYS_MOST || now.day + n > DAY_LAST) {
            return NONE;
        }
        long x = seed;
        for (int i = 0; i < n; i++) {
            acts.keep(now);
            x = drawTroubles(x);
            passDay();
        }
        return now.day;
    }

    public int undo() {
        if (acts.kept == 0) {
            return NONE;
        }
        acts.restore(now);
        return acts.kept;
    }

    public int image() {
        if (!hasTown()) {
            return NONE;
        }
        imageState.copyFrom(now);
        imageLog.copyFrom(log);
        hasImage = true;
        return now.day;
    }

    public int back() {
        if (!hasImage) {
            return NONE;
        }
        now.copyFrom(imageState);
        log.copyFrom(imageLog);
        acts.forget();
        return now.day;
    }

    private int refuse(int reason) {
        refused[reason]++;
        return NONE;
    }

    private void passDay() {
        int before = now.inTown;
        now.sunset(town.fade);
        log.write(now.day, before & ~now.inTown, Integer.bitCount(now.heavy()), now.inTown);
        now.coins = Math.min(COINS_MOST, now.coins + 1);
        now.day++;
    }

    /** What the draws bring ahead of a day: an offence, perhaps a grudge forgiven; the x of the last draw. */
    private long drawTroubles(long x) {
        long drawn = nextX(x);
        int one = drawOf(drawn, town.persons);
        drawn = nextX(drawn);
        int other = drawOf(drawn, town.persons);
        if (one != other) {
            offend(now, one, other);
        }
        drawn = nextX(drawn);
        if (drawOf(drawn, 10) < mercyNow) {
            drawn = nextX(drawn);
            int place = drawOf(drawn, PLACES);
            if (now.isHeld(place)) {
                now.weight[place] = 0;
            }
        }
        return drawn;
    }

    private static long nextX(long x) {
        return x * 6364136223846793005L + 1442695040888963407L;
    }

    private static int drawOf(long x, int j) {
        return j <= 0 ? 0 : (int) ((x >>> 33) % j);
    }

    /** One offends another one for nothing: the place of the grudge, NONE (and all is as it was) if he can't. */
    private int offend(State at, int one, int other) {
        int place = at.lowestFree();
        if (place == NONE || !at.isIn(other)) {
            return NONE;
        }
        at.weight[place] = weightOf(at, one, other);
        at.holder[place] = other;
        at.against[place] = one;
        at.kind[place] = PLAIN;
        at.inTown |= 1 << one;
        return place;
    }

    private int weightOf(State at, int one, int other) {
        int temper = town.temper[other];
        if (laws.holding == NONE) {
            return temper + 2;
        }
        int against = Integer.bitCount(at.heavyAgainst(one));
        int held = Integer.bitCount(at.heavyOf(other));
        laws.setLetters(temper, town.liked[one], against, held, at.isIn(one) ? 1 : 0, at.day);
        return Math.max(1, Math.min(WEIGHT_MOST, laws.worth()));
    }

    // ---- what is reckoned apart

    public int weighs(int one, int other) {
        return areTwo(one, other) ? weightOf(now, one, other) : NONE;
    }

    public int stays(int person) {
        if (!isPerson(person)) {
            return NONE;
        }
        apart[0].copyFrom(now);
        return sunsetsOf(apart[0], person, STAYS_MOST);
    }

    public int empty() {
        if (!hasTown()) {
            return NONE;
        }
        State at = apart[0];
        at.copyFrom(now);
        for (int i = 0; i <= STAYS_MOST; i++) {
            if (at.inTown == 0) {
                return i;
            }
            at.sunset(town.fade);
        }
        return NONE;
    }

    public int fewest(int persons, int n, int what) {
        if (!hasTown() || persons < 1 || persons >= 1 << town.persons) {
            return NONE;
        }
        if (n < 1 || n > LOOK_MOST || what < 0 || what > 1) {
            return NONE;
        }
        apart[0].copyFrom(now);
        for (int offences = 0; offences <= town.persons; offences++) {
            int row = leastRow(0, offences, 0, persons, n);
            if (row != NONE) {
                return what == 0 ? row : offences;
            }
        }
        return NONE;
    }

    public int rid(int person) {
        return isPerson(person) && now.isIn(person) ? now.heldBehindFading(town.fade) & now.heavyAgainst(person) : NONE;
    }

    public int treaty(int one, int other) {
        if (!areTwo(one, other)) {
            return NONE;
        }
        return now.hasTreaty(one, other) ? 1 : 0;
    }

    public int shares(int person, int c) {
        if (!isPerson(person) || c < 0 || c > SHARED_MOST) {
            return NONE;
        }
        int all = now.weightOfAll(now.heavy());
        return all <= 0 ? 0 : c * now.weightOfAll(now.heavyAgainst(person)) / all;
    }

    public int odds(int person, int n, int chance) {
        if (!isPerson(person) || n < 0 || n > ODDS_MOST || chance < 0 || chance > 100) {
            return NONE;
        }
        apart[n].copyFrom(now);
        return (int) partsInTown(person, n, chance, PARTS);
    }

    /** How many sunsets, most at most, a person stays from a spare state on, which is used up by it. */
    private int sunsetsOf(State at, int person, int most) {
        if (!at.isIn(person)) {
            return 0;
        }
        for (int i = 0; i < most; i++) {
            at.sunset(town.fade);
            if (!at.isIn(person)) {
                return i;
            }
        }
        return most;
    }

    /**
     * The least row with so many offences left from this person on by which all wanted stay, NONE by none;
     * row is what was chosen ahead, apart[person] as it is by that.
     */
    private int leastRow(int person, int left, int row, int wanted, int n) {
        if (left > town.persons - person) {
            return NONE;
        }
        if (person >= town.persons) {
            return allStay(apart[person], wanted, n) ? row : NONE;
        }
        for (int other = 0; left > 0 && other < town.persons; other++) {
            apart[person + 1].copyFrom(apart[person]);
            if (other != person && offend(apart[person + 1], person, other) != NONE) {
                int found = leastRow(person + 1, left - 1, row * 10 + other, wanted, n);
                if (found != NONE) {
                    return found;
                }
            }
        }
        apart[person + 1].copyFrom(apart[person]);
        return leastRow(person + 1, left, row * 10 + NOBODY, wanted, n);
    }

    /** Whether all wanted are in town behind each of n sunsets from a spare state on, which is used up by it. */
    private boolean allStay(State at, int wanted, int n) {
        if ((at.inTown & wanted) != wanted) {
            return false;
        }
        for (int i = 0; i < n; i++) {
            boolean changed = at.sunset(town.fade);
            if ((at.inTown & wanted) != wanted) {
                return false;
            }
            // Where a sunset changes nothing, none behind it does.
            if (!changed) {
                return true;
            }
        }
        return true;
    }

    /** The parts by which he is in town behind so many sunsets more, from apart[left] on. */
    private long partsInTown(int person, int left, int chance, long parts) {
        State at = apart[left];
        if (!at.isIn(person)) {
            return 0;
        }
        if (left <= 0) {
            return parts;
        }
        State then = apart[left - 1];
        long faster = parts * chance / 100;
        then.copyFrom(at);
        then.sunset(town.fade + 1);
        long in = partsInTown(person, left - 1, chance, faster);
        then.copyFrom(at);
        then.sunset(town.fade);
        return in + partsInTown(person, left - 1, chance, parts - faster);
    }

    // ---- what was seen

    public int seen(int person, int n, boolean is) {
        if (!isPerson(person) || n < 1 || n > LOOK_MOST || sightings.told >= SEEN_MOST) {
            return NONE;
        }
        return sightings.keep(person, n, is);
    }

    public int weights(int grudge, int i) {
        if (!isToldGrudge(grudge)) {
            return NONE;
        }
        int fitting = 0;
        for (int weight = 1; weight <= WEIGHT_MOST; weight++) {
            if (fits(grudge, weight)) {
                if (fitting == i) {
                    return weight;
                }
                fitting++;
            }
        }
        return i == NONE ? fitting : NONE;
    }

    public int whom(int grudge, int n) {
        if (!isToldGrudge(grudge) || n < 1 || n > LOOK_MOST) {
            return NONE;
        }
        sightings.clearTally();
        int fitting = 0;
        for (int weight = 1; weight <= WEIGHT_MOST; weight++) {
            if (fits(grudge, weight)) {
                fitting++;
                sightings.tallyBehind(n);
            }
        }
        return fitting == 0 ? NONE : sightings.evenest(town.persons, fitting);
    }

    /** Whether all that was seen is so, were a told grudge so heavy; who was in town is left with what was seen. */
    private boolean fits(int grudge, int weight) {
        State at = apart[0];
        at.copyFrom(town.told);
        at.weight[grudge] = weight;
        for (int sunsets = 1; sunsets <= LOOK_MOST; sunsets++) {
            at.sunset(town.fade);
            sightings.inTownBehind[sunsets] = at.inTown;
        }
        return sightings.allSo();
    }

    // ---- games of two

    public int game(int one, int other, int x, int y, int what) {
        if (!areTwoInTown(one, other) || !isChoice(x) || !isChoice(y)) {
            return HIDDEN;
        }
        switch (what) {
            case 0:
                return gameOf(one, other, x, y, one) - priceOf(x);
            case 1:
                return gameOf(one, other, x, y, other) - priceOf(y);
            default:
                return HIDDEN;
        }
    }

    public int rests(int one, int other, int i) {
        if (!areTwoInTown(one, other)) {
            return NONE;
        }
        for (int x = 0; x < CHOICES; x++) {
            for (int y = 0; y < CHOICES; y++) {
                firstHas[x * CHOICES + y] = gameOf(one, other, x, y, one) - priceOf(x);
                secondHas[x * CHOICES + y] = gameOf(one, other, x, y, other) - priceOf(y);
            }
        }
        int resting = 0;
        for (int x = 0; x < CHOICES; x++) {
            for (int y = 0; y < CHOICES; y++) {
                if (isRest(x, y)) {
                    if (resting == i) {
                        return 10 * x + y;
                    }
                    resting++;
                }
            }
        }
        return i == NONE ? resting : NONE;
    }

    private static boolean isChoice(int choice) {
        return choice >= 0 && choice < CHOICES;
    }

    private static int priceOf(int choice) {
        return choice == OFFEND ? 2 : 0;
    }

    /** How long a person stays by what two chose, without the price of it. */
    private int gameOf(int one, int other, int x, int y, int person) {
        State at = apart[0];
        at.copyFrom(now);
        choose(at, one, other, x);
        choose(at, other, one, y);
        return sunsetsOf(at, person, GAME_MOST);
    }

    private void choose(State at, int one, int other, int choice) {
        if (choice == OFFEND) {
            offend(at, one, other);
        } else if (choice == FORGIVE) {
            at.forgiveAll(one, other);
        }
    }

    private boolean isRest(int x, int y) {
        int at = x * CHOICES + y;
        for (int i = 0; i < CHOICES; i++) {
            if (firstHas[i * CHOICES + y] > firstHas[at] || secondHas[x * CHOICES + i] > secondHas[at]) {
                return false;
            }
        }
        return true;
    }

    // ---- who and what is most

    public int most(int what) {
        if (!hasTown()) {
            return NONE;
        }
        switch (what) {
            case 0:
                return mostBurdened(1);
            case 1:
                return mostBurdened(-1);
            case 2:
                return sourest();
            case 3:
                return mostLiked();
            case 4:
                return now.heaviest();
            case 5:
                return now.inTown;
            case 6:
                return now.heldBehindFading(0);
            case 7:
                return now.heavy() & ~now.heavyBehindFading(town.fade);
            case 8:
                return now.weightOfAll(now.heavy());
            case 9:
                return PLACES - Integer.bitCount(now.heavy());
            case 10:
                return treaties();
            case 11:
                return now.leaving(town.fade);
            default:
                return NONE;
        }
    }

    /** Of those in town the one with the most burden (sign 1) or the least (sign -1). */
    private int mostBurdened(int sign) {
        int found = NONE;
        int best = 0;
        for (int i = 0; i < town.persons; i++) {
            int burden = sign * now.burdenOf(i);
            if (now.isIn(i) && (found == NONE || burden > best)) {
                found = i;
                best = burden;
            }
        }
        return found;
    }

    private int sourest() {
        int found = 0;
        for (int i = 1; i < town.persons; i++) {
            if (Integer.bitCount(now.heavyOf(i)) > Integer.bitCount(now.heavyOf(found))) {
                found = i;
            }
        }
        return found;
    }

    private int mostLiked() {
        int found = 0;
        for (int i = 1; i < town.persons; i++) {
            if (town.liked[i] > town.liked[found]) {
                found = i;
            }
        }
        return found;
    }

    private int treaties() {
        int pairs = 0;
        for (int i = 0; i < town.persons; i++) {
            for (int j = i + 1; j < town.persons; j++) {
                if (now.hasTreaty(i, j)) {
                    pairs++;
                }
            }
        }
        return pairs;
    }

    /** The bytes that were fed, each 1 .. 255. */
    private static final class Tape {
        final int[] bytes = new int[TAPE_MOST];
        int length = 0;

        static int bytesIn(int four) {
            int found = 0;
            for (int shift = 24; shift >= 0; shift -= 8) {
                if ((four >>> shift & 255) != 0) {
                    found++;
                }
            }
            return found;
        }

        void append(int four) {
            for (int shift = 24; shift >= 0; shift -= 8) {
                int next = four >>> shift & 255;
                if (next != 0 && length < TAPE_MOST) {
                    bytes[length] = next;
                    length++;
                }
            }
        }
    }

    /** A text read sign by sign; behind its first fault it reads as if it were at its end. */
    private static final class Signs {
        private int[] bytes = new int[0];
        private int length = 0;
        private int at = 0;
        int fault = NONE;

        void start(int[] text, int textLength) {
            bytes = text;
            length = Math.min(textLength, text.length);
            at = 0;
            fault = NONE;
        }

        /** The sign at hand, blanks ahead of it left out. */
        int next() {
            if (fault != NONE) {
                return END;
            }
            while (at < length && bytes[at] == BLANK) {
                at++;
            }
            return at < length ? bytes[at] : END;
        }

        void take() {
            if (at < length) {
                at++;
            }
        }

        boolean takes(int sign) {
            if (next() != sign) {
                return false;
            }
            take();
            return true;
        }

        void wants(int sign) {
            if (next() == sign) {
                take();
            } else {
                wrong();
            }
        }

        /** The sign at hand is a fault (the end, if there is none), unless there was one ahead. */
        void wrong() {
            if (fault == NONE) {
                fault = at;
            }
        }

        void wrongAtLast() {
            if (fault == NONE) {
                fault = at - 1;
            }
        }

        /** A number of so many digits at most; one digit more is a fault, and so is none. */
        int number(int digitsMost) {
            int first = next();
            if (first < '0' || first > '9') {
                wrong();
                return 0;
            }
            int value = 0;
            int digits = 0;
            while (at < length && bytes[at] >= '0' && bytes[at] <= '9' && digits <= digitsMost) {
                if (digits == digitsMost) {
                    wrong();
                    return 0;
                }
                value = value * 10 + bytes[at] - '0';
                at++;
                digits++;
            }
            return value;
        }
    }

    /** A town as it was told. */
    private static final class Town {
        int persons = 0;
        int grudges = 0;
        int fade = 0;
        final int[] temper = new int[PERSONS_MOST];
        final int[] liked = new int[PERSONS_MOST];
        final State told = new State();

        void copyFrom(Town other) {
            persons = other.persons;
            grudges = other.grudges;
            fade = other.fade;
            System.arraycopy(other.temper, 0, temper, 0, PERSONS_MOST);
            System.arraycopy(other.liked, 0, liked, 0, PERSONS_MOST);
            told.copyFrom(other.told);
        }

        /** Whether there are two persons at least and each grudge is between two different ones of them. */
        boolean isWhole() {
            for (int i = 0; i < grudges; i++) {
                int one = told.holder[i];
                int other = told.against[i];
                if (one >= persons || other >= persons || one == other) {
                    return false;
                }
            }
            return persons >= 2;
        }
    }

    /** Reads a text as a town into a draft, which tells something only if there was no fault. */
    private static final class TownReader {
        private static final String RULE_LETTERS = "fk";
        private static final int[] RULE_LEAST = {0, 0};
        private static final int[] RULE_MOST = {9, 99};
        private static final String PERSON_LETTERS = "tl";
        private static final int[] PERSON_LEAST = {0, 0};
        private static final int[] PERSON_MOST = {9, 9};
        private static final String GRUDGE_LETTERS = "oawk";
        private static final int[] GRUDGE_LEAST = {0, 0, 1, 0};
        private static final int[] GRUDGE_MOST = {4, 4, 30, 2};

        final Town draft = new Town();
        private final Signs in = new Signs();
        private final int[] items = new int[GRUDGE_LETTERS.length()];
        private boolean hasRules = false;

        int faultOf(int[] bytes, int length) {
            in.start(bytes, length);
            clearDraft();
            boolean more = true;
            for (int i = 0; more && i <= TAPE_MOST; i++) {
                readClause();
                more = in.takes(';');
            }
            if (in.next() != END || !draft.isWhole()) {
                in.wrong();
            }
            draft.told.inTown = (1 << draft.persons) - 1;
            return in.fault;
        }

        private void clearDraft() {
            hasRules = false;
            draft.persons = 0;
            draft.grudges = 0;
            draft.fade = 1;
            draft.told.clear();
            draft.told.coins = 20;
        }

        private void readClause() {
            int sign = in.next();
            if (sign == 's' && !hasRules) {
                readRules();
            } else if (sign == 'p' && draft.persons < PERSONS_MOST) {
                readPerson();
            } else if (sign == 'g' && draft.grudges < TOLD_MOST) {
                readGrudge();
            } else {
                in.wrong();
            }
        }

        private void readRules() {
            setItems(1, 20, 0, 0);
            readItems(RULE_LETTERS, RULE_LEAST, RULE_MOST);
            draft.fade = items[0];
            draft.told.coins = items[1];
            hasRules = true;
        }

        private void readPerson() {
            setItems(4, 3, 0, 0);
            readItems(PERSON_LETTERS, PERSON_LEAST, PERSON_MOST);
            draft.temper[draft.persons] = items[0];
            draft.liked[draft.persons] = items[1];
            draft.persons++;
        }

        private void readGrudge() {
            setItems(0, 1, 6, PLAIN);
            readItems(GRUDGE_LETTERS, GRUDGE_LEAST, GRUDGE_MOST);
            draft.told.holder[draft.grudges] = items[0];
            draft.told.against[draft.grudges] = items[1];
            draft.told.weight[draft.grudges] = items[2];
            draft.told.kind[draft.grudges] = items[3];
            draft.grudges++;
        }

        private void setItems(int first, int second, int third, int fourth) {
            items[0] = first;
            items[1] = second;
            items[2] = third;
            items[3] = fourth;
        }

        /** Takes the clause's own letter and its items; what is none of it, or was there, is left to be read. */
        private void readItems(String letters, int[] least, int[] most) {
            in.take();
            int had = 0;
            for (int i = 0; i <= letters.length(); i++) {
                int sign = in.next();
                int item = sign == END ? NONE : letters.indexOf((char) sign);
                if (item < 0 || (had >> item & 1) == 1) {
                    return;
                }
                had |= 1 << item;
                in.take();
                items[item] = in.number(2);
                if (items[item] < least[item] || items[item] > most[item]) {
                    in.wrongAtLast();
                }
            }
        }
    }

    /** What acts change but the log: the grudges by places, who is in town (bits), the coins, the day. */
    private static final class State {
        final int[] holder = new int[PLACES];
        final int[] against = new int[PLACES];
        final int[] weight = new int[PLACES];
        final int[] kind = new int[PLACES];
        int inTown = 0;
        int coins = 0;
        int day = 0;

        void clear() {
            for (int i = 0; i < PLACES; i++) {
                holder[i] = 0;
                against[i] = 0;
                weight[i] = 0;
                kind[i] = PLAIN;
            }
            inTown = 0;
            coins = 0;
            day = 0;
        }

        void copyFrom(State other) {
            System.arraycopy(other.holder, 0, holder, 0, PLACES);
            System.arraycopy(other.against, 0, against, 0, PLACES);
            System.arraycopy(other.weight, 0, weight, 0, PLACES);
            System.arraycopy(other.kind, 0, kind, 0, PLACES);
            inTown = other.inTown;
            coins = other.coins;
            day = other.day;
        }

        boolean isIn(int person) {
            return (inTown >> person & 1) == 1;
        }

        boolean isHeld(int place) {
            return weight[place] > 0 && isIn(holder[place]);
        }

        int lowestFree() {
            for (int i = 0; i < PLACES; i++) {
                if (weight[i] == 0) {
                    return i;
                }
            }
            return NONE;
        }

        int heavy() {
            return heavyBehindFading(0);
        }

        int heavyBehindFading(int fade) {
            int found = 0;
            for (int i = 0; i < PLACES; i++) {
                if (weightBehindFading(i, fade) > 0) {
                    found |= 1 << i;
                }
            }
            return found;
        }

        int heldBehindFading(int fade) {
            int found = 0;
            for (int i = 0; i < PLACES; i++) {
                if (weightBehindFading(i, fade) > 0 && isIn(holder[i])) {
                    found |= 1 << i;
                }
            }
            return found;
        }

        private int weightBehindFading(int place, int fade) {
            return kind[place] == NEVER_SAID ? weight[place] : Math.max(0, weight[place] - fade);
        }

        int heavyAgainst(int person) {
            return heavyWith(against, person);
        }

        int heavyOf(int person) {
            return heavyWith(holder, person);
        }

        private int heavyWith(int[] who, int person) {
            int found = 0;
            for (int i = 0; i < PLACES; i++) {
                if (weight[i] > 0 && who[i] == person) {
                    found |= 1 << i;
                }
            }
            return found;
        }

        int weightOfAll(int places) {
            int together = 0;
            for (int i = 0; i < PLACES; i++) {
                if ((places >> i & 1) == 1) {
                    together += weight[i];
                }
            }
            return together;
        }

        int burdenOf(int person) {
            return weightOfAll(heavyAgainst(person) & heldBehindFading(0));
        }

        int heaviest() {
            int found = NONE;
            int best = 0;
            for (int i = 0; i < PLACES; i++) {
                if (weight[i] > best) {
                    found = i;
                    best = weight[i];
                }
            }
            return found;
        }

        boolean hasTreaty(int one, int other) {
            return (heavyOf(one) & heavyAgainst(other)) != 0 && (heavyOf(other) & heavyAgainst(one)) != 0;
        }

        void forgiveAll(int one, int other) {
            for (int i = 0; i < PLACES; i++) {
                if (holder[i] == one && against[i] == other) {
                    weight[i] = 0;
                }
            }
        }

        /** Who will go at the next sunset (bits). */
        int leaving(int fade) {
            int under = 0;
            for (int i = 0; i < PLACES; i++) {
                if (weightBehindFading(i, fade) > 0 && isIn(holder[i])) {
                    under |= 1 << against[i];
                }
            }
            return inTown & ~under;
        }

        /** A sunset but for log, coins and day: whether anything is otherwise then. */
        boolean sunset(int fade) {
            int under = 0;
            boolean changed = false;
            for (int i = 0; i < PLACES; i++) {
                int before = weight[i];
                if (before > 0) {
                    int left = weightBehindFading(i, fade);
                    weight[i] = left;
                    changed = changed || left != before;
                    if (left > 0 && isIn(holder[i])) {
                        under |= 1 << against[i];
                    }
                }
            }
            int going = inTown & ~under;
            if (going == 0) {
                return changed;
            }
            inTown &= under;
            passOnWilled(going);
            return true;
        }

        private void passOnWilled(int gone) {
            for (int i = 0; i < PLACES; i++) {
                if (weight[i] > 0 && kind[i] == WILLED && (gone >> holder[i] & 1) == 1) {
                    int heirs = inTown & ~(1 << against[i]);
                    if (heirs == 0) {
                        weight[i] = 0;
                    } else {
                        holder[i] = Integer.numberOfTrailingZeros(heirs);
                    }
                }
            }
        }
    }

    /** The rows of the latest days: those told and as many more as undoing may bring back. */
    private static final class Log {
        private static final int ROWS = LOG_MOST + ACTS_MOST;

        private final int[] went = new int[ROWS];
        private final int[] heavy = new int[ROWS];
        private final int[] inTown = new int[ROWS];

        void write(int day, int whoWent, int howManyHeavy, int whoIsInTown) {
            int row = Math.floorMod(day, ROWS);
            went[row] = whoWent;
            heavy[row] = howManyHeavy;
            inTown[row] = whoIsInTown;
        }

        int read(int day, int what) {
            int row = Math.floorMod(day, ROWS);
            switch (what) {
                case 0:
                    return went[row];
                case 1:
                    return heavy[row];
                case 2:
                    return inTown[row];
                default:
                    return NONE;
            }
        }

        void copyFrom(Log other) {
            System.arraycopy(other.went, 0, went, 0, ROWS);
            System.arraycopy(other.heavy, 0, heavy, 0, ROWS);
            System.arraycopy(other.inTown, 0, inTown, 0, ROWS);
        }
    }

    /** How it was ahead of each of the latest acts. */
    private static final class Acts {
        private final State[] before = new State[ACTS_MOST];
        private int next = 0;
        int kept = 0;

        Acts() {
            for (int i = 0; i < ACTS_MOST; i++) {
                before[i] = new State();
            }
        }

        void forget() {
            kept = 0;
        }

        void keep(State state) {
            before[next].copyFrom(state);
            next = (next + 1) % ACTS_MOST;
            kept = Math.min(ACTS_MOST, kept + 1);
        }

        void restore(State state) {
            next = (next + ACTS_MOST - 1) % ACTS_MOST;
            kept--;
            state.copyFrom(before[next]);
        }
    }

    /** What was seen of the town as told, and who would have been in town behind how many sunsets. */
    private static final class Sightings {
        private final int[] person = new int[SEEN_MOST];
        private final int[] sunsets = new int[SEEN_MOST];
        private final int[] wasIn = new int[SEEN_MOST];
        private final int[] tally = new int[PERSONS_MOST];
        final int[] inTownBehind = new int[LOOK_MOST + 1];
        int told = 0;

        void forget() {
            told = 0;
        }

        int keep(int who, int n, boolean is) {
            if (told < SEEN_MOST) {
                person[told] = who;
                sunsets[told] = n;
                wasIn[told] = is ? 1 : 0;
                told++;
            }
            return told;
        }

        boolean allSo() {
            for (int i = 0; i < told; i++) {
                if ((inTownBehind[sunsets[i]] >> person[i] & 1) != wasIn[i]) {
                    return false;
                }
            }
            return true;
        }

        void clearTally() {
            for (int i = 0; i < PERSONS_MOST; i++) {
                tally[i] = 0;
            }
        }

        void tallyBehind(int n) {
            for (int i = 0; i < PERSONS_MOST; i++) {
                tally[i] += inTownBehind[n] >> i & 1;
            }
        }

        /** The lowest of so many persons who was in town about as often as not. */
        int evenest(int persons, int all) {
            int found = 0;
            for (int i = 1; i < persons; i++) {
                if (Math.abs(2 * tally[i] - all) < Math.abs(2 * tally[found] - all)) {
                    found = i;
                }
            }
            return found;
        }
    }

    /** The laws, each as its reader left it, and the one that holds. */
    private static final class Laws {
        private static final int BOUND = 1000000;
        // Six levels of brackets leave less than twenty values waiting.
        private static final int WAITING_MOST = 32;

        private final int[][] codes = new int[LAWS_MOST][LawReader.CODE_MOST];
        private final int[] lengths = new int[LAWS_MOST];
        private final int[] letters = new int[LawReader.LETTERS.length()];
        private final int[] waiting = new int[WAITING_MOST];
        private int top = 0;
        int told = 0;
        int holding = NONE;

        int keep(int[] code, int length) {
            if (told >= LAWS_MOST || length > LawReader.CODE_MOST) {
                return NONE;
            }
            System.arraycopy(code, 0, codes[told], 0, length);
            lengths[told] = length;
            told++;
            return told - 1;
        }

        void setLetters(int t, int l, int n, int m, int s, int d) {
            letters[0] = t;
            letters[1] = l;
            letters[2] = n;
            letters[3] = m;
            letters[4] = s;
            letters[5] = d;
        }

        /** The worth by the law that holds with the letters as set, 0 without one. */
        int worth() {
            if (holding < 0 || holding >= told) {
                return 0;
            }
            int[] code = codes[holding];
            boolean skipping = false;
            top = 0;
            for (int i = 0; i < lengths[holding]; i++) {
                int cell = code[i];
                if (skipping) {
                    skipping = cell != LawReader.SIGN + ';';
                } else if (cell < LawReader.LETTER) {
                    push(cell);
                } else if (cell < LawReader.SIGN) {
                    push(letters[cell - LawReader.LETTER]);
                } else if (cell == LawReader.SIGN + '?') {
                    skipping = pop() == 0;
                } else if (cell == LawReader.SIGN + ';') {
                    return pop();
                } else if (cell == LawReader.SIGN + '!') {
                    push(1 - pop());
                } else {
                    int right = pop();
                    int left = pop();
                    push(joined(cell - LawReader.SIGN, left, right));
                }
            }
            return 0;
        }

        private void push(int value) {
            if (top < WAITING_MOST) {
                waiting[top] = value;
                top++;
            }
        }

        private int pop() {
            if (top <= 0) {
                return 0;
            }
            top--;
            return waiting[top];
        }

        /** Two values with a sign between them; truths are 1 and 0. */
        private static int joined(int sign, int left, int right) {
            switch (sign) {
                case '+':
                    return Math.max(-BOUND, Math.min(BOUND, left + right));
                case '-':
                    return Math.max(-BOUND, Math.min(BOUND, left - right));
                case '*':
                    return (int) Math.max(-BOUND, Math.min(BOUND, (long) left * right));
                case '/':
                    return right == 0 ? 0 : left / right;
                case '=':
                    return left == right ? 1 : 0;
                case '<':
                    return left < right ? 1 : 0;
                case '>':
                    return left > right ? 1 : 0;
                case '&':
                    return left & right;
                default:
                    return left | right;
            }
        }
    }

    /**
     * Reads a text as a law into a code: the same signs, but each behind what it joins, without brackets and with a ;
     * behind each clause. A number stands for itself.
     */
    private static final class LawReader {
        static final String LETTERS = "tlnmsd";
        static final int LETTER = 10000;
        static final int SIGN = 20000;
        // Each byte brings one cell at most, and the last clause has a ; of its own.
        static final int CODE_MOST = TAPE_MOST + 1;
        private static final int DEEPEST = 6;

        final int[] code = new int[CODE_MOST];
        int codeLength = 0;
        private final Signs in = new Signs();
        // Whether a clause's first sum belongs to a condition shows only behind it.
        private boolean hasReadSum = false;

        int faultOf(int[] bytes, int length) {
            in.start(bytes, length);
            codeLength = 0;
            boolean more = true;
            for (int i = 0; more && i <= TAPE_MOST; i++) {
                readClause();
                more = in.takes(';');
            }
            if (in.next() != END) {
                in.wrong();
            }
            return in.fault;
        }

        private void readClause() {
            in.wants('y');
            in.wants(':');
            int sign = in.next();
            boolean conditional = sign == '!' || sign == '(';
            if (!conditional) {
                readSum(0);
                conditional = isRelation(in.next());
                hasReadSum = conditional;
            }
            if (conditional) {
                readCondition(0);
                in.wants('?');
                emit(SIGN + '?');
                readSum(0);
            }
            emit(SIGN + ';');
        }

        private void readCondition(int depth) {
            readTruth(depth);
            for (int i = 0; i <= TAPE_MOST && in.takes('|'); i++) {
                readTruth(depth);
                emit(SIGN + '|');
            }
        }

        private void readTruth(int depth) {
            readUnit(depth);
            for (int i = 0; i <= TAPE_MOST && in.takes('&'); i++) {
                readUnit(depth);
                emit(SIGN + '&');
            }
        }

        private void readUnit(int depth) {
            int sign = hasReadSum ? END : in.next();
            if (sign == '!') {
                if (opens(depth)) {
                    readUnit(depth + 1);
                    emit(SIGN + '!');
                }
                return;
            }
            if (sign == '(') {
                if (opens(depth)) {
                    readCondition(depth + 1);
                    in.wants(')');
                }
                return;
            }
            if (!hasReadSum) {
                readSum(depth);
            }
            hasReadSum = false;
            int relation = in.next();
            if (isRelation(relation)) {
                in.take();
                readSum(depth);
                emit(SIGN + relation);
            } else {
                in.wrong();
            }
        }

        private static boolean isRelation(int sign) {
            return sign == '=' || sign == '<' || sign == '>';
        }

        private void readSum(int depth) {
            readTerm(depth);
            for (int i = 0; i <= TAPE_MOST; i++) {
                int sign = in.next();
                if (sign != '+' && sign != '-') {
                    return;
                }
                in.take();
                readTerm(depth);
                emit(SIGN + sign);
            }
        }

        private void readTerm(int depth) {
            readAtom(depth);
            for (int i = 0; i <= TAPE_MOST; i++) {
                int sign = in.next();
                if (sign != '*' && sign != '/') {
                    return;
                }
                in.take();
                readAtom(depth);
                emit(SIGN + sign);
            }
        }

        private void readAtom(int depth) {
            int sign = in.next();
            int letter = sign == END ? NONE : LETTERS.indexOf((char) sign);
            if (letter >= 0) {
                in.take();
                emit(LETTER + letter);
            } else if (sign == '[') {
                if (opens(depth)) {
                    readSum(depth + 1);
                    in.wants(']');
                }
            } else {
                emit(in.number(4));
            }
        }

        /** Takes one of ( [ ! unless so many stand round it that it must not. */
        private boolean opens(int depth) {
            if (depth >= DEEPEST) {
                in.wrong();
                return false;
            }
            in.take();
            return true;
        }

        private void emit(int cell) {
            if (codeLength < CODE_MOST) {
                code[codeLength] = cell;
                codeLength++;
            }
        }
    }
}
