import java.util.Arrays;
import java.util.NoSuchElementException;

/**
 * Packs of cards that somebody puts at the doors of houses, and how well they hold. The words in
 * capitals in the comments are the terms of the document.
 */
public final class MemoryHouse {
    public static final int NONE = -1;

    private static final int CARDS = 52;
    private static final int CARDS_LEAST = 3;
    private static final int ROLES = 3;
    private static final int DULLS = 10;
    private static final int LOOKS = 10;
    private static final int HOUSES_MOST = 6;
    private static final int DOORS_MOST = 20;
    private static final int PACKS_MOST = 8;
    private static final int PER_MOST = 3;
    private static final int SECONDS_MOST = 60;
    private static final int CLOCK_MOST = 1000000;
    private static final int BEHIND_MOST = 99999;
    private static final int MOMENTS_MOST = 6;
    private static final int TEXTS_MOST = 3;
    private static final int WEEKS_MOST = 20;
    private static final int WEEK_MOST = 9999;
    private static final int SPAN_MOST = 9999;
    private static final int RATE_MOST = 100;
    private static final int TRIED_MOST = 6;
    private static final int HUNDREDTHS = 100;
    private static final int PLANNED_MOST = 5;
    private static final int GUESSES_MOST = 5;
    private static final int GUESSED_OF = 6;
    private static final int OFF_MOST = 5200;
    private static final int NEEDED_MOST = 20;
    private static final int TURNS_MOST = 60;

    private static final int RIGHT = 0;
    private static final int BLANK = 1;
    private static final int GHOST = 2;
    private static final int ALIKE = 3;
    private static final int SWAPPED = 4;
    private static final int SHIFTED = 5;
    private static final int OTHER = 6;

    private final Tape tape = new Tape();
    private final State now = new State();
    private final Teller teller = new Teller();
    private final Recall recall = new Recall(now, teller);
    private final Slips slips = new Slips(now);
    private final Guesser guesser = new Guesser(teller);
    private final Planner planner = new Planner();
    private final Exchange exchange = new Exchange(now, recall);
    private State kept = null;

    public MemoryHouse() {
    }

    public int feed(int a, int b, int c, int d, int e) {
        if (!tape.hasRoomForFive()) {
            return NONE;
        }
        tape.addNumber(a);
        tape.addNumber(b);
        tape.addNumber(c);
        tape.addNumber(d);
        tape.addNumber(e);
        return tape.length;
    }

    public boolean end(int n) {
        if (n < 0 || n > tape.length) {
            return false;
        }
        tape.length = n;
        return true;
    }

    public int law() throws IllegalArgumentException, UnsupportedOperationException {
        Text text = tape.read(true);
        if (text == null) {
            throw new IllegalArgumentException("the text of the LAW is wrong");
        }
        if (now.lawCount >= TEXTS_MOST) {
            throw new UnsupportedOperationException("there are 3 LAWS");
        }
        now.laws[now.lawCount] = text;
        now.lawCount++;
        return now.lawCount - 1;
    }

    public int rule() throws IllegalArgumentException, UnsupportedOperationException {
        Text text = tape.read(false);
        if (text == null) {
            throw new IllegalArgumentException("the text of the RULE is wrong");
        }
        if (now.ruleCount >= TEXTS_MOST) {
            throw new UnsupportedOperationException("there are 3 RULES");
        }
        now.rules[now.ruleCount] = text;
        now.ruleCount++;
        return now.ruleCount - 1;
    }

    public int fault() {
        return tape.wrongByte;
    }

    public int dull(int card, int role, int n) throws IndexOutOfBoundsException, IllegalArgumentException {
        if (card < 0 || card >= CARDS || role < 0 || role >= ROLES) {
            throw new IndexOutOfBoundsException("no such card or role");
        }
        if (n < 0 || n >= DULLS) {
            throw new IllegalArgumentException("DULL is 0 to 9");
        }
        int was = now.dulls[card * ROLES + role];
        now.dulls[card * ROLES + role] = n;
        return was;
    }

    public int house(int doors) throws IllegalArgumentException, UnsupportedOperationException {
        if (doors < 1 || doors > DOORS_MOST) {
            throw new IllegalArgumentException("a HOUSE has 1 to 20 DOORS");
        }
        if (now.houseCount >= HOUSES_MOST) {
            throw new UnsupportedOperationException("there are 6 HOUSES");
        }
        return now.addHouse(doors);
    }

    public void look(int house, int door, int n) throws IndexOutOfBoundsException, IllegalArgumentException {
        checkDoor(house, door);
        if (n < 0 || n >= LOOKS) {
            throw new IllegalArgumentException("a LOOK is 0 to 9");
        }
        now.looks[house * DOORS_MOST + door] = n;
    }

    public int pack(int start, int step, int n) throws IllegalArgumentException, UnsupportedOperationException {
        if (start < 0 || start >= CARDS || !isStep(step) || n < CARDS_LEAST || n > CARDS) {
            throw new IllegalArgumentException("START, STEP or N are none");
        }
        if (now.packCount >= PACKS_MOST) {
            throw new UnsupportedOperationException("there are 8 PACKS");
        }
        now.packs[now.packCount].begin(start, step, n);
        now.packCount++;
        return now.packCount - 1;
    }

    public int card(int pack, int i) throws IndexOutOfBoundsException {
        checkPlaceIn(pack, i);
        return now.packs[pack].cardAt(i);
    }

    public int put(int pack, int house, int door, int per, int seconds)
            throws IndexOutOfBoundsException, IllegalStateException, IllegalArgumentException {
        checkPack(pack);
        checkDoor(house, door);
        Pack which = now.packs[pack];
        if (which.isPut) {
            throw new IllegalStateException("the PACK is PUT");
        }
        checkPer(per);
        checkSeconds(seconds);
        int places = which.placesBy(per);
        if (door + places > now.doors[house]) {
            throw new IllegalArgumentException("there is no room");
        }
        checkClock(places * seconds);
        which.isPut = true;
        which.putting.begin(house, door, per, seconds);
        which.putting.order = now.putCount;
        which.putting.touchFrom(now.clock, seconds);
        now.putCount++;
        now.clock += places * seconds;
        return places;
    }

    public int later(int seconds) throws IllegalArgumentException {
        if (seconds < 0) {
            throw new IllegalArgumentException("THE CLOCK goes on");
        }
        checkClock(seconds);
        now.clock += seconds;
        return now.clock;
    }

    public int go(int pack, int seconds)
            throws IndexOutOfBoundsException, IllegalStateException, IllegalArgumentException {
        checkPut(pack);
        checkSeconds(seconds);
        Pack which = now.packs[pack];
        int all = which.places() * seconds;
        checkClock(all);
        which.putting.touchFrom(now.clock, seconds);
        which.putting.gone++;
        now.clock += all;
        return which.putting.gone;
    }

    public int about(int pack, int i, int what)
            throws IndexOutOfBoundsException, IllegalStateException, NoSuchElementException {
        checkPlaceIn(pack, i);
        checkPut(pack);
        Pack which = now.packs[pack];
        int place = which.placeOf(i);
        int role = which.roleOf(i);
        switch (what) {
            case 0:
                return place;
            case 1:
                return which.putting.door + place;
            case 2:
                return role;
            case 3:
                return which.putting.ageOf(place, now.clock);
            case 4:
                return recall.oldAt(pack, which.putting, which.putting.door + place);
            case 5:
                return recall.likeAt(which, which.putting, place);
            case 6:
                return now.dulls[which.cardAt(i) * ROLES + role];
            case 7:
                return which.said[i];
            default:
                throw new NoSuchElementException("what is 0 to 7");
        }
    }

    public int holds(int law, int pack, int i) throws IndexOutOfBoundsException, IllegalStateException {
        checkLaw(law);
        checkPlaceIn(pack, i);
        checkPut(pack);
        return recall.heldNow(now.laws[law], pack, i);
    }

    public int awaited(int law, int pack) throws IndexOutOfBoundsException, IllegalStateException {
        checkLaw(law);
        checkPut(pack);
        return recall.sumAt(now.laws[law], pack, now.clock);
    }

    public int say(int pack, int i, int card) throws IndexOutOfBoundsException, IllegalStateException {
        checkPlaceIn(pack, i);
        if (card < NONE || card >= CARDS) {
            throw new IndexOutOfBoundsException("no such card");
        }
        checkPut(pack);
        now.packs[pack].said[i] = card;
        return slips.kindOf(pack, i);
    }

    public int kind(int pack, int i) throws IndexOutOfBoundsException, IllegalStateException {
        checkPlaceIn(pack, i);
        checkPut(pack);
        return slips.kindOf(pack, i);
    }

    public int run(int law, int pack, int seed) throws IndexOutOfBoundsException, IllegalStateException {
        checkLaw(law);
        checkPut(pack);
        Pack which = now.packs[pack];
        int state = seed;
        for (int i = 0; i < which.size; i++) {
            state = nextSeed(state);
            if (drawOf(state) % HUNDREDTHS < recall.heldNow(now.laws[law], pack, i)) {
                which.said[i] = which.cardAt(i);
            } else {
                state = nextSeed(state);
                which.said[i] = slips.drawn(pack, i, drawOf(state));
            }
        }
        return which.rightOnes();
    }

    public int odds(int law, int pack, int i, int kind, boolean below)
            throws IndexOutOfBoundsException, IllegalStateException, IllegalArgumentException {
        checkLaw(law);
        checkPlaceIn(pack, i);
        checkPut(pack);
        if (kind < RIGHT || kind > SHIFTED) {
            throw new IllegalArgumentException("the KIND is 0 to 5");
        }
        int held = recall.heldNow(now.laws[law], pack, i);
        long above = held;
        long under = HUNDREDTHS;
        if (kind != RIGHT) {
            slips.find(pack, i);
            above = (HUNDREDTHS - held) * slips.weightOf(kind);
            under = HUNDREDTHS * slips.allWeights();
        }
        long common = commonPart(above, under);
        return (int) ((below ? under : above) / common);
    }

    public int kinds(int pack, int kind)
            throws IndexOutOfBoundsException, IllegalStateException, IllegalArgumentException {
        checkPut(pack);
        if (kind < RIGHT || kind > OTHER) {
            throw new IllegalArgumentException("the KIND is 0 to 6");
        }
        int found = 0;
        for (int i = 0; i < now.packs[pack].size; i++) {
            if (slips.kindOf(pack, i) == kind) {
                found++;
            }
        }
        return found;
    }

    public int score(int rule, int pack) throws IndexOutOfBoundsException, IllegalStateException {
        checkRule(rule);
        checkPut(pack);
        Pack which = now.packs[pack];
        return (int) teller.scoreOf(now.rules[rule], which.rightOnes(), which.blanks(), which.size);
    }

    public int fits(int pack, int off)
            throws IndexOutOfBoundsException, IllegalStateException, IllegalArgumentException {
        checkPut(pack);
        if (off < 0 || off > OFF_MOST) {
            throw new IllegalArgumentException("off is 0 to 5200");
        }
        int said = HUNDREDTHS * now.packs[pack].rightOnes();
        int bits = 0;
        for (int law = 0; law < now.lawCount; law++) {
            if (Math.abs(recall.sumAt(now.laws[law], pack, now.clock) - said) <= off) {
                bits |= 1 << law;
            }
        }
        return bits;
    }

    public int lacks(int pack, int i)
            throws IndexOutOfBoundsException, IllegalStateException, IllegalArgumentException {
        checkPut(pack);
        if (i < NONE) {
            throw new IllegalArgumentException("i is below NONE");
        }
        Pack which = now.packs[pack];
        return i == NONE ? which.lackCount() : which.lackAt(i);
    }

    public int guess(int rule, int pack, int what)
            throws IndexOutOfBoundsException, IllegalStateException, NoSuchElementException {
        checkRule(rule);
        checkPut(pack);
        if (what < 0 || what > 2) {
            throw new NoSuchElementException("what is 0 to 2");
        }
        guesser.weigh(now.rules[rule], now.packs[pack]);
        if (what == 0) {
            return guesser.best;
        }
        long common = commonPart(guesser.above, guesser.below);
        return (int) ((what == 1 ? guesser.above : guesser.below) / common);
    }

    public int moment(int seconds) throws IllegalArgumentException, UnsupportedOperationException {
        if (seconds <= now.lastMoment() || seconds > BEHIND_MOST) {
            throw new IllegalArgumentException("MOMENTS rise, 1 to 99999");
        }
        if (now.momentCount >= MOMENTS_MOST) {
            throw new UnsupportedOperationException("there are 6 MOMENTS");
        }
        now.moments[now.momentCount] = seconds;
        now.momentCount++;
        return now.momentCount;
    }

    public int moments() {
        int were = now.momentCount;
        now.momentCount = 0;
        return were;
    }

    public int again(int law, int pack, int most, int end, boolean gain)
            throws IndexOutOfBoundsException, IllegalStateException, IllegalArgumentException {
        checkLaw(law);
        checkPut(pack);
        if (most < 0 || end < now.lastMoment() || end < 0 || end > BEHIND_MOST) {
            throw new IllegalArgumentException("most or the END are none");
        }
        recall.forgetTouches();
        int bestSet = 0;
        int without = recall.sumTouched(now.laws[law], pack, 0, end);
        int bestSum = without;
        for (int set = 1; set < 1 << now.momentCount; set++) {
            int size = Integer.bitCount(set);
            if (size <= most) {
                int sum = recall.sumTouched(now.laws[law], pack, set, end);
                if (sum > bestSum || sum == bestSum && size < Integer.bitCount(bestSet)) {
                    bestSum = sum;
                    bestSet = set;
                }
            }
        }
        return gain ? bestSum - without : bestSet;
    }

    public int houses(int law, int packs, int seconds, int least)
            throws IndexOutOfBoundsException, IllegalArgumentException {
        checkLaw(law);
        checkSeconds(seconds);
        if (packs < 1 || packs > TURNS_MOST || least < 0 || least > HUNDREDTHS) {
            throw new IllegalArgumentException("packs or hundredths are none");
        }
        for (int needed = 1; needed <= NEEDED_MOST; needed++) {
            if (recall.heldByTurns(now.laws[law], (packs - 1) / needed, seconds) >= least) {
                return needed;
            }
        }
        return NONE;
    }

    public int unlike(int houses, boolean pairs) {
        int different = 0;
        int alikePairs = 0;
        for (int look = 0; look < LOOKS; look++) {
            int found = now.doorsThatLook(look, houses);
            different += found > 0 ? 1 : 0;
            alikePairs += found * (found - 1) / 2;
        }
        return pairs ? alikePairs : different;
    }

    public int per(int law, int pack, int house, int seconds, boolean sum)
            throws IndexOutOfBoundsException, IllegalArgumentException {
        checkLaw(law);
        checkPack(pack);
        checkHouse(house);
        if (seconds < 1 || seconds > SPAN_MOST) {
            throw new IllegalArgumentException("seconds are 1 to 9999");
        }
        int best = NONE;
        int bestSum = NONE;
        for (int per = 1; per <= PER_MOST; per++) {
            int places = now.packs[pack].placesBy(per);
            int each = places < 1 ? 0 : Math.min(seconds / places, SECONDS_MOST);
            int whole = each < 1 ? NONE : recall.sumIfPut(now.laws[law], pack, house, per, each);
            if (whole > bestSum) {
                bestSum = whole;
                best = per;
            }
        }
        return sum ? bestSum : best;
    }

    public int plan(int law, int set, int per, int seconds, int what)
            throws IndexOutOfBoundsException, IllegalArgumentException {
        checkLaw(law);
        if (what != NONE) {
            checkPack(what);
        }
        checkPlanned(set);
        checkPer(per);
        checkSeconds(seconds);
        planner.begin();
        for (int pack = 0; pack < now.packCount; pack++) {
            if ((set >> pack & 1) == 1) {
                planner.addPack(pack);
                for (int house = 0; house < now.houseCount; house++) {
                    planner.setWorth(house, recall.sumIfPut(now.laws[law], pack, house, per, seconds));
                }
            }
        }
        planner.search();
        return what == NONE ? planner.bestSum : planner.houseFor(what);
    }

    public int last(int law, int set, int seconds) throws IndexOutOfBoundsException, IllegalArgumentException {
        checkLaw(law);
        if (seconds < 0 || seconds > SPAN_MOST) {
            throw new IllegalArgumentException("seconds are 0 to 9999");
        }
        int best = NONE;
        int bestLoss = 0;
        for (int pack = 0; pack < now.packCount; pack++) {
            if ((set >> pack & 1) == 1 && now.packs[pack].isPut) {
                int loss = recall.sumAt(now.laws[law], pack, now.clock)
                        - recall.sumAt(now.laws[law], pack, now.clock + seconds);
                if (best == NONE || loss < bestLoss) {
                    best = pack;
                    bestLoss = loss;
                }
            }
        }
        return best;
    }

    public void chance(int tried, int n) throws IllegalArgumentException {
        if (tried < 1 || tried > TRIED_MOST || n < 0 || n > HUNDREDTHS) {
            throw new IllegalArgumentException("1 to 6 are tried, a CHANCE is 0 to 100");
        }
        now.chances[tried - 1] = n;
    }

    public long risk(int whole, boolean odds) throws IllegalArgumentException {
        if (whole < 0 || whole > TRIED_MOST) {
            throw new IllegalArgumentException("0 to 6 are whole");
        }
        int best = 1;
        long bestOdds = oddsOfWhole(1, whole);
        for (int tried = 2; tried <= TRIED_MOST; tried++) {
            long these = oddsOfWhole(tried, whole);
            if (these > bestOdds) {
                best = tried;
                bestOdds = these;
            }
        }
        return odds ? bestOdds : best;
    }

    public int week(int n) throws IllegalArgumentException, UnsupportedOperationException {
        if (n < 0 || n > WEEK_MOST) {
            throw new IllegalArgumentException("a WEEK's number is 0 to 9999");
        }
        if (now.weekCount >= WEEKS_MOST) {
            throw new UnsupportedOperationException("there are 20 WEEKS");
        }
        now.weeks[now.weekCount] = n;
        now.weekCount++;
        return now.weekCount;
    }

    public int rates(int goal, int what) throws IllegalArgumentException, NoSuchElementException {
        if (goal < 0 || goal > WEEK_MOST) {
            throw new IllegalArgumentException("the GOAL is 0 to 9999");
        }
        if (what < 0 || what > 4) {
            throw new NoSuchElementException("what is 0 to 4");
        }
        int found = 0;
        int least = NONE;
        int greatest = NONE;
        for (int rate = 0; rate <= RATE_MOST; rate++) {
            if (isRate(rate, goal)) {
                least = found == 0 ? rate : least;
                greatest = rate;
                found++;
            }
        }
        if (what == 0) {
            return found;
        }
        if (what <= 2) {
            return what == 1 ? least : greatest;
        }
        if (found == 0 || now.weekCount < 1) {
            return NONE;
        }
        return nextWeekEdge(goal, what == 3, least, greatest);
    }

    public int dullest() {
        return exchange.mostMissed();
    }

    public int change(int law) throws IndexOutOfBoundsException {
        checkLaw(law);
        return exchange.bestPair(now.laws[law]);
    }

    public void image() {
        if (kept == null) {
            kept = new State();
        }
        kept.copyFrom(now);
    }

    public boolean back() {
        if (kept == null) {
            return false;
        }
        now.copyFrom(kept);
        return true;
    }

    public int count(int what) {
        switch (what) {
            case 0:
                return now.houseCount;
            case 1:
                return now.doorsInAll();
            case 2:
                return now.packCount;
            case 3:
                return now.putCount;
            case 4:
                return now.clock;
            case 5:
                return now.lawCount;
            case 6:
                return now.ruleCount;
            case 7:
                return now.weekCount;
            case 8:
                return now.momentCount;
            case 9:
                return now.rightInAll();
            default:
                return NONE;
        }
    }

    private void checkLaw(int law) {
        if (law < 0 || law >= now.lawCount) {
            throw new IndexOutOfBoundsException("no such LAW");
        }
    }

    private void checkRule(int rule) {
        if (rule < 0 || rule >= now.ruleCount) {
            throw new IndexOutOfBoundsException("no such RULE");
        }
    }

    private void checkHouse(int house) {
        if (house < 0 || house >= now.houseCount) {
            throw new IndexOutOfBoundsException("no such HOUSE");
        }
    }

    private void checkDoor(int house, int door) {
        checkHouse(house);
        if (door < 0 || door >= now.doors[house]) {
            throw new IndexOutOfBoundsException("no such DOOR");
        }
    }

    private void checkPack(int pack) {
        if (pack < 0 || pack >= now.packCount) {
            throw new IndexOutOfBoundsException("no such PACK");
        }
    }

    private void checkPlaceIn(int pack, int i) {
        checkPack(pack);
        if (i < 0 || i >= now.packs[pack].size) {
            throw new IndexOutOfBoundsException("no such place in the PACK");
        }
    }

    private void checkPut(int pack) {
        checkPack(pack);
        if (!now.packs[pack].isPut) {
            throw new IllegalStateException("the PACK is not PUT");
        }
    }

    private void checkPer(int per) {
        if (per < 1 || per > PER_MOST) {
            throw new IllegalArgumentException("PER is 1 to 3");
        }
    }

    private void checkSeconds(int seconds) {
        if (seconds < 1 || seconds > SECONDS_MOST) {
            throw new IllegalArgumentException("SECONDS are 1 to 60");
        }
    }

    private void checkClock(int seconds) {
        if (seconds > CLOCK_MOST - now.clock) {
            throw new IllegalArgumentException("THE CLOCK would be past its most");
        }
    }

    private void checkPlanned(int set) {
        if (set >> now.packCount != 0 || Integer.bitCount(set) > PLANNED_MOST) {
            throw new IllegalArgumentException("the set has bits of no PACKS, or too many");
        }
        for (int pack = 0; pack < now.packCount; pack++) {
            if ((set >> pack & 1) == 1 && now.packs[pack].isPut) {
                throw new IllegalArgumentException("a PACK of the set is PUT");
            }
        }
    }

    /** 52 is 2 times 2 times 13, so these are all the factors that a STEP can have in common with it. */
    private static boolean isStep(int step) {
        return step >= 1 && step < CARDS && step % 2 != 0 && step % 13 != 0;
    }

    private static int nextSeed(int seed) {
        return 1103515245 * seed + 12345;
    }

    private static int drawOf(int seed) {
        return seed >>> 16 & 32767;
    }

    /** At least 1, so that it can be divided by; the steps of Euclid on two longs stay below 100. */
    private static long commonPart(long a, long b) {
        long greater = a < 0 ? -a : a;
        long lesser = b < 0 ? -b : b;
        for (int step = 0; step < 100 && lesser != 0; step++) {
            long rest = greater % lesser;
            greater = lesser;
            lesser = rest;
        }
        return greater < 1 ? 1 : greater;
    }

    /** In 100 to the 6th parts: each PACK that is not tried counts as a factor of 100. */
    private long oddsOfWhole(int tried, int whole) {
        int chance = now.chances[tried - 1];
        long sum = 0;
        for (int good = whole; good <= tried; good++) {
            long part = 1;
            for (int k = 0; k < TRIED_MOST; k++) {
                part *= k < good ? chance : k < tried ? HUNDREDTHS - chance : HUNDREDTHS;
            }
            sum += part * waysToChoose(tried, good);
        }
        return sum;
    }

    private static long waysToChoose(int all, int some) {
        long ways = 1;
        for (int k = 1; k <= some; k++) {
            ways = ways * (all - some + k) / k;
        }
        return ways;
    }

    private static int weekAfter(int week, int goal, int rate) {
        return week + Math.floorDiv(rate * (goal - week), RATE_MOST);
    }

    private boolean isRate(int rate, int goal) {
        for (int k = 1; k < now.weekCount; k++) {
            if (Math.abs(weekAfter(now.weeks[k - 1], goal, rate) - now.weeks[k]) > 1) {
                return false;
            }
        }
        return true;
    }

    private int nextWeekEdge(int goal, boolean lowest, int least, int greatest) {
        int week = now.weeks[now.weekCount - 1];
        int edge = weekAfter(week, goal, least);
        for (int rate = least + 1; rate <= greatest; rate++) {
            if (isRate(rate, goal)) {
                int next = weekAfter(week, goal, rate);
                edge = lowest ? Math.min(edge, next) : Math.max(edge, next);
            }
        }
        return edge;
    }

    /** A LAW or a RULE as it was read; never changed, so THE IMAGE may share it. */
    private static final class Text {
        static final int LINES_MOST = 10;
        /** What each LINE adds (below 0: takes away). */
        final int[] amounts;
        /** The FACT by which each LINE's amount is taken, or NONE. */
        final int[] times;
        /** Where the condition of each LINE ends in the code; it begins where the one before it ends. */
        final int[] ends;
        /** The conditions, each thing behind those that it joins. */
        final int[] code;

        Text(int[] amounts, int[] times, int[] ends, int[] code) {
            this.amounts = amounts;
            this.times = times;
            this.ends = ends;
            this.code = code;
        }
    }

    /** Reads its text by its things first, then by the grammar; what is wrong is always the thing at hand. */
    private static final class Tape {
        static final int MOST = 400;
        /** Things: a NUMBER is itself; FACTS and TAGS stand by their place among the Teller's facts. */
        static final int FACT = 1000;
        static final int TAG = 1020;
        static final int WORD = 1040;
        static final int ADD = 1040;
        static final int LESS = 1041;
        static final int IF = 1042;
        static final int AND = 1043;
        static final int OR = 1044;
        static final int NOT = 1045;
        static final int WRONG = 1098;
        static final int END = 1099;
        /** Any other byte, behind this; most of them can stand nowhere. */
        static final int SIGN = 1100;
        static final int PLUS = SIGN + '+';
        static final int BELOW = SIGN + '<';
        static final int ABOVE = SIGN + '>';
        private static final int DEPTH_MOST = 6;
        private static final String WORDS = "add less if and or not";
        private static final String LAW_FACTS = "seconds dull old like age gone per role";
        private static final String LAW_TAGS = "first last";
        private static final int LAW_FACT_COUNT = 8;
        private static final String RULE_FACTS = "right wrong blank cards";
        private static final String RULE_TAGS = "whole";
        private static final int RULE_FACT_COUNT = 4;

        private final int[] bytes = new int[MOST];
        int length = 0;
        private final int[] things = new int[MOST + 1];
        private final int[] begins = new int[MOST + 1];
        private final int[] amounts = new int[Text.LINES_MOST];
        private final int[] times = new int[Text.LINES_MOST];
        private final int[] ends = new int[Text.LINES_MOST];
        private final int[] code = new int[MOST];
        int wrongByte = NONE;
        private int at = 0;
        private int lines = 0;
        private int written = 0;

        boolean hasRoomForFive() {
            return length + 20 <= MOST;
        }

        void addNumber(int number) {
            for (int shift = 24; shift >= 0 && length < MOST; shift -= 8) {
                bytes[length] = number >>> shift & 255;
                length++;
            }
        }

        /** The text, or null if it is wrong; the TAPE is used up by both. */
        Text read(boolean forLaw) {
            split(forLaw);
            length = 0;
            at = 0;
            lines = 0;
            written = 0;
            boolean good = true;
            boolean more = here() != END;
            for (int n = 0; n < Text.LINES_MOST && good && more; n++) {
                good = readLine();
                more = here() != END;
                good = good && (!more || take(SIGN + ';'));
            }
            if (!good || more) {
                wrongByte = begins[at];
                return null;
            }
            wrongByte = NONE;
            return new Text(Arrays.copyOf(amounts, lines), Arrays.copyOf(times, lines),
                    Arrays.copyOf(ends, lines), Arrays.copyOf(code, written));
        }

        private void split(boolean forLaw) {
            int count = 0;
            int from = 0;
            for (int n = 0; n < MOST && from < length; n++) {
                int to = endOfThing(from);
                if (bytes[from] != ' ') {
                    begins[count] = from;
                    things[count] = thingOf(from, to, forLaw);
                    count++;
                }
                from = to;
            }
            begins[count] = length;
            things[count] = END;
        }

        private int endOfThing(int from) {
            boolean letters = isLetter(bytes[from]);
            boolean digits = isDigit(bytes[from]);
            int to = from + 1;
            while (to < length && (letters && isLetter(bytes[to]) || digits && isDigit(bytes[to]))) {
                to++;
            }
            return to;
        }

        private static boolean isLetter(int sign) {
            return sign >= 'a' && sign <= 'z';
        }

        private static boolean isDigit(int sign) {
            return sign >= '0' && sign <= '9';
        }

        private int thingOf(int from, int to, boolean forLaw) {
            if (isLetter(bytes[from])) {
                return wordOf(from, to, forLaw);
            }
            if (!isDigit(bytes[from])) {
                return SIGN + bytes[from];
            }
            if (to - from > 3) {
                return WRONG;
            }
            int number = 0;
            for (int k = from; k < to; k++) {
                number = number * 10 + bytes[k] - '0';
            }
            return number;
        }

        private int wordOf(int from, int to, boolean forLaw) {
            int word = indexIn(WORDS, from, to);
            if (word != NONE) {
                return WORD + word;
            }
            int fact = indexIn(forLaw ? LAW_FACTS : RULE_FACTS, from, to);
            if (fact != NONE) {
                return FACT + fact;
            }
            int tag = indexIn(forLaw ? LAW_TAGS : RULE_TAGS, from, to);
            if (tag != NONE) {
                return TAG + (forLaw ? LAW_FACT_COUNT : RULE_FACT_COUNT) + tag;
            }
            return WRONG;
        }

        /** Which word of a list, with a blank between each two, stands on the TAPE there. */
        private int indexIn(String list, int from, int to) {
            int index = 0;
            int matched = 0;
            boolean same = true;
            for (int k = 0; k <= list.length(); k++) {
                if (k == list.length() || list.charAt(k) == ' ') {
                    if (same && matched == to - from) {
                        return index;
                    }
                    index++;
                    matched = 0;
                    same = true;
                } else {
                    same = same && matched < to - from && bytes[from + matched] == list.charAt(k);
                    matched++;
                }
            }
            return NONE;
        }

        private int here() {
            return things[at];
        }

        /** Never goes past the END, which is no thing that can be taken. */
        private boolean take(int thing) {
            if (at >= MOST || things[at] != thing || thing == END) {
                return false;
            }
            at++;
            return true;
        }

        private void write(int thing) {
            if (written < code.length) {
                code[written] = thing;
                written++;
            }
        }

        private boolean readLine() {
            boolean adds = take(ADD);
            if (!adds && !take(LESS)) {
                return false;
            }
            int number = here();
            if (number >= FACT || !take(number)) {
                return false;
            }
            int fact = NONE;
            if (take(SIGN + '*')) {
                fact = here() - FACT;
                if (fact < 0 || fact >= TAG - FACT || !take(fact + FACT)) {
                    return false;
                }
            }
            if (take(IF) && !readEither(0)) {
                return false;
            }
            amounts[lines] = adds ? number : -number;
            times[lines] = fact;
            ends[lines] = written;
            lines++;
            return true;
        }

        private boolean readEither(int depth) {
            if (!readAll(depth)) {
                return false;
            }
            for (int n = 0; n < MOST && take(OR); n++) {
                if (!readAll(depth)) {
                    return false;
                }
                write(OR);
            }
            return true;
        }

        private boolean readAll(int depth) {
            if (!readAtom(depth)) {
                return false;
            }
            for (int n = 0; n < MOST && take(AND); n++) {
                if (!readAtom(depth)) {
                    return false;
                }
                write(AND);
            }
            return true;
        }

        private boolean readAtom(int depth) {
            int thing = here();
            if (thing == NOT || thing == SIGN + '(') {
                if (depth >= DEPTH_MOST || !take(thing)) {
                    return false;
                }
                if (thing == NOT) {
                    boolean good = readAtom(depth + 1);
                    write(NOT);
                    return good;
                }
                return readEither(depth + 1) && take(SIGN + ')');
            }
            if (thing >= TAG && thing < WORD) {
                write(thing - TAG + FACT);
                return take(thing);
            }
            if (!readSum()) {
                return false;
            }
            int sign = here();
            if (sign != BELOW && sign != ABOVE || !take(sign) || !readSum()) {
                return false;
            }
            write(sign);
            return true;
        }

        private boolean readSum() {
            for (int n = 0; n < MOST; n++) {
                int part = here();
                if (part >= TAG || !take(part)) {
                    return false;
                }
                write(part);
                if (n > 0) {
                    write(PLUS);
                }
                if (!take(PLUS)) {
                    return true;
                }
            }
            return false;
        }
    }

    /** Tells what a text tells of the facts that stand in its row. */
    private static final class Teller {
        static final int SECONDS = 0;
        static final int DULL = 1;
        static final int OLD = 2;
        static final int LIKE = 3;
        static final int AGE = 4;
        static final int GONE = 5;
        static final int PER = 6;
        static final int ROLE = 7;
        static final int FIRST = 8;
        static final int LAST = 9;
        static final int RIGHT_ONES = 0;
        static final int WRONG_ONES = 1;
        static final int BLANK_ONES = 2;
        static final int ALL_CARDS = 3;
        static final int WHOLE = 4;

        final int[] facts = new int[LAST + 1];
        /** Each of the 7 depths leaves at most 2 values waiting, and a comparison takes 3 more. */
        private final int[] stack = new int[20];

        long tell(Text text) {
            if (text == null) {
                return 0;
            }
            long sum = 0;
            int from = 0;
            for (int line = 0; line < text.amounts.length; line++) {
                int to = text.ends[line];
                if (isMet(text, from, to)) {
                    int fact = text.times[line];
                    sum += (long) text.amounts[line] * (fact < 0 || fact >= facts.length ? 1 : facts[fact]);
                }
                from = to;
            }
            return sum;
        }

        int heldBy(Text law) {
            long told = tell(law);
            return told < 0 ? 0 : told > HUNDREDTHS ? HUNDREDTHS : (int) told;
        }

        long scoreOf(Text rule, int right, int blank, int size) {
            facts[RIGHT_ONES] = right;
            facts[WRONG_ONES] = size - right - blank;
            facts[BLANK_ONES] = blank;
            facts[ALL_CARDS] = size;
            facts[WHOLE] = right == size ? 1 : 0;
            return tell(rule);
        }

        /** A LINE without a condition has no code, and always holds. */
        private boolean isMet(Text text, int from, int to) {
            int top = 0;
            for (int k = from; k < to && k < text.code.length; k++) {
                int thing = text.code[k];
                if (thing < Tape.WORD) {
                    if (top < stack.length) {
                        int fact = thing - Tape.FACT;
                        stack[top] = fact < 0 || fact >= facts.length ? thing : facts[fact];
                        top++;
                    }
                } else if (thing == Tape.NOT) {
                    if (top >= 1) {
                        stack[top - 1] = 1 - stack[top - 1];
                    }
                } else if (top >= 2) {
                    top--;
                    int a = stack[top - 1];
                    int b = stack[top];
                    switch (thing) {
                        case Tape.AND:
                            stack[top - 1] = a & b;
                            break;
                        case Tape.OR:
                            stack[top - 1] = a | b;
                            break;
                        case Tape.PLUS:
                            stack[top - 1] = a + b;
                            break;
                        case Tape.BELOW:
                            stack[top - 1] = a < b ? 1 : 0;
                            break;
                        default:
                            stack[top - 1] = a > b ? 1 : 0;
                            break;
                    }
                }
            }
            return top == 0 || stack[0] != 0;
        }
    }

    /** How a PACK is PUT, or might be. */
    private static final class Putting {
        int house = 0;
        int door = 0;
        int per = 1;
        int seconds = 0;
        int gone = 0;
        /** When the first PLACE was last TOUCHED, and how much later each further one. */
        int touched = 0;
        int pace = 0;
        /** How many PACKS were PUT ahead. */
        int order = 0;

        void begin(int inHouse, int fromDoor, int perPlace, int secondsEach) {
            house = inHouse;
            door = fromDoor;
            per = perPlace;
            seconds = secondsEach;
            gone = 0;
        }

        void touchFrom(int clock, int secondsEach) {
            touched = clock;
            pace = secondsEach;
        }

        int ageOf(int place, int clock) {
            return (clock - touched - place * pace) / 10;
        }

        void copyFrom(Putting other) {
            house = other.house;
            door = other.door;
            per = other.per;
            seconds = other.seconds;
            gone = other.gone;
            touched = other.touched;
            pace = other.pace;
            order = other.order;
        }
    }

    private static final class Pack {
        int start = 0;
        int step = 0;
        int size = 0;
        boolean isPut = false;
        final Putting putting = new Putting();
        final int[] said = new int[CARDS];

        void begin(int first, int stepTo, int n) {
            start = first;
            step = stepTo;
            size = n;
            isPut = false;
            Arrays.fill(said, NONE);
        }

        void copyFrom(Pack other) {
            start = other.start;
            step = other.step;
            size = other.size;
            isPut = other.isPut;
            putting.copyFrom(other.putting);
            System.arraycopy(other.said, 0, said, 0, CARDS);
        }

        int cardAt(int i) {
            return (start + i * step) % CARDS;
        }

        int placesBy(int per) {
            return per < 1 ? 0 : (size + per - 1) / per;
        }

        int places() {
            return placesBy(putting.per);
        }

        int placeOf(int i) {
            return putting.per < 1 ? 0 : i / putting.per;
        }

        int roleOf(int i) {
            return i - placeOf(i) * putting.per;
        }

        int cardsAt(int place) {
            return Math.min(putting.per, size - place * putting.per);
        }

        /** The card that has a role at a PLACE, or NONE. */
        int cardWith(int place, int role) {
            int i = place * putting.per + role;
            return place < 0 || role >= putting.per || i >= size ? NONE : cardAt(i);
        }

        /** The PLACE that is at a DOOR, or NONE. */
        int placeAt(int house, int door) {
            int place = door - putting.door;
            return isPut && putting.house == house && place >= 0 && place < placesBy(putting.per) ? place : NONE;
        }

        int rightOnes() {
            int found = 0;
            for (int i = 0; i < size; i++) {
                found += said[i] == cardAt(i) ? 1 : 0;
            }
            return found;
        }

        int blanks() {
            int found = 0;
            for (int i = 0; i < size; i++) {
                found += said[i] == NONE ? 1 : 0;
            }
            return found;
        }

        /** Bits of all cards that were SAID for some card. */
        private long saidCards() {
            long bits = 0;
            for (int i = 0; i < size; i++) {
                bits |= said[i] == NONE ? 0 : 1L << said[i];
            }
            return bits;
        }

        int lackCount() {
            long spoken = saidCards();
            int found = 0;
            for (int i = 0; i < size; i++) {
                found += (spoken >> cardAt(i) & 1) == 0 ? 1 : 0;
            }
            return found;
        }

        int lackAt(int index) {
            long spoken = saidCards();
            int found = 0;
            for (int i = 0; i < size; i++) {
                if ((spoken >> cardAt(i) & 1) == 0) {
                    if (found == index) {
                        return cardAt(i);
                    }
                    found++;
                }
            }
            return NONE;
        }
    }

    /** All that THE IMAGE keeps. */
    private static final class State {
        final int[] dulls = new int[CARDS * ROLES];
        int houseCount = 0;
        final int[] doors = new int[HOUSES_MOST];
        final int[] looks = new int[HOUSES_MOST * DOORS_MOST];
        int packCount = 0;
        final Pack[] packs = new Pack[PACKS_MOST];
        int putCount = 0;
        int clock = 0;
        int lawCount = 0;
        final Text[] laws = new Text[TEXTS_MOST];
        int ruleCount = 0;
        final Text[] rules = new Text[TEXTS_MOST];
        int momentCount = 0;
        final int[] moments = new int[MOMENTS_MOST];
        final int[] chances = new int[TRIED_MOST];
        int weekCount = 0;
        final int[] weeks = new int[WEEKS_MOST];

        State() {
            for (int k = 0; k < PACKS_MOST; k++) {
                packs[k] = new Pack();
            }
        }

        void copyFrom(State other) {
            System.arraycopy(other.dulls, 0, dulls, 0, dulls.length);
            houseCount = other.houseCount;
            System.arraycopy(other.doors, 0, doors, 0, doors.length);
            System.arraycopy(other.looks, 0, looks, 0, looks.length);
            packCount = other.packCount;
            for (int k = 0; k < PACKS_MOST; k++) {
                packs[k].copyFrom(other.packs[k]);
            }
            putCount = other.putCount;
            clock = other.clock;
            lawCount = other.lawCount;
            ruleCount = other.ruleCount;
            for (int k = 0; k < TEXTS_MOST; k++) {
                laws[k] = other.laws[k];
                rules[k] = other.rules[k];
            }
            momentCount = other.momentCount;
            System.arraycopy(other.moments, 0, moments, 0, moments.length);
            System.arraycopy(other.chances, 0, chances, 0, chances.length);
            weekCount = other.weekCount;
            System.arraycopy(other.weeks, 0, weeks, 0, weeks.length);
        }

        int addHouse(int howMany) {
            doors[houseCount] = howMany;
            for (int door = 0; door < howMany; door++) {
                looks[houseCount * DOORS_MOST + door] = door % LOOKS;
            }
            houseCount++;
            return houseCount - 1;
        }

        int lookOf(int house, int door) {
            return looks[house * DOORS_MOST + door];
        }

        int doorsThatLook(int look, int houses) {
            int found = 0;
            for (int house = 0; house < houseCount; house++) {
                for (int door = 0; door < doors[house] && (houses >> house & 1) == 1; door++) {
                    found += lookOf(house, door) == look ? 1 : 0;
                }
            }
            return found;
        }

        int doorsInAll() {
            int all = 0;
            for (int house = 0; house < houseCount; house++) {
                all += doors[house];
            }
            return all;
        }

        int rightInAll() {
            int all = 0;
            for (int pack = 0; pack < packCount; pack++) {
                all += packs[pack].isPut ? packs[pack].rightOnes() : 0;
            }
            return all;
        }

        /** 0 without one: the first MOMENT is above 0. */
        int lastMoment() {
            return momentCount < 1 ? 0 : moments[momentCount - 1];
        }
    }

    /** How cards hold: as they are PUT now, and as they would be if PUT or TOUCHED otherwise. */
    private static final class Recall {
        private final State now;
        private final Teller teller;
        private final Putting trial = new Putting();
        /** AWAITED by the last MOMENT of a set (0: none) and how many it has; NONE if not yet known. */
        private final int[] touchedSums = new int[(MOMENTS_MOST + 1) * (MOMENTS_MOST + 1)];

        Recall(State now, Teller teller) {
            this.now = now;
            this.teller = teller;
        }

        int heldNow(Text law, int pack, int i) {
            Pack which = now.packs[pack];
            facePlace(pack, which.putting, which.placeOf(i), now.clock);
            int role = which.roleOf(i);
            return heldWith(law, role, now.dulls[which.cardAt(i) * ROLES + role]);
        }

        int sumAt(Text law, int pack, int clock) {
            return sumBy(law, pack, now.packs[pack].putting, clock);
        }

        /** Sets of as many MOMENTS with the same last one are as good: each such sum is made once. */
        int sumTouched(Text law, int pack, int set, int end) {
            int last = 0;
            for (int k = 0; k < now.momentCount; k++) {
                last = (set >> k & 1) == 1 ? k + 1 : last;
            }
            int size = Integer.bitCount(set);
            int known = last * (MOMENTS_MOST + 1) + size;
            if (touchedSums[known] == NONE) {
                trial.copyFrom(now.packs[pack].putting);
                trial.gone += size;
                if (last > 0) {
                    trial.touchFrom(now.clock + now.moments[last - 1], 0);
                }
                touchedSums[known] = sumBy(law, pack, trial, now.clock + end);
            }
            return touchedSums[known];
        }

        void forgetTouches() {
            Arrays.fill(touchedSums, NONE);
        }

        /** AWAITED if the PACK were just PUT from DOOR 0 on, as the latest one; NONE without room. */
        int sumIfPut(Text law, int pack, int house, int per, int seconds) {
            if (now.packs[pack].placesBy(per) > now.doors[house]) {
                return NONE;
            }
            trial.begin(house, 0, per, seconds);
            trial.order = now.putCount;
            trial.touchFrom(now.clock, 0);
            return sumBy(law, pack, trial, now.clock);
        }

        int heldByTurns(Text law, int old, int seconds) {
            Arrays.fill(teller.facts, 0);
            teller.facts[Teller.OLD] = old;
            teller.facts[Teller.SECONDS] = seconds;
            teller.facts[Teller.PER] = PER_MOST;
            return teller.heldBy(law);
        }

        private int sumBy(Text law, int pack, Putting putting, int clock) {
            Pack which = now.packs[pack];
            int sum = 0;
            int role = putting.per;
            int place = NONE;
            for (int i = 0; i < which.size; i++) {
                if (role >= putting.per) {
                    role = 0;
                    place++;
                    facePlace(pack, putting, place, clock);
                }
                sum += heldWith(law, role, now.dulls[which.cardAt(i) * ROLES + role]);
                role++;
            }
            return sum;
        }

        /** All facts of a card but those that heldWith sets. */
        void facePlace(int pack, Putting putting, int place, int clock) {
            Pack which = now.packs[pack];
            int[] facts = teller.facts;
            facts[Teller.SECONDS] = putting.seconds;
            facts[Teller.OLD] = oldAt(pack, putting, putting.door + place);
            facts[Teller.LIKE] = likeAt(which, putting, place);
            facts[Teller.AGE] = putting.ageOf(place, clock);
            facts[Teller.GONE] = putting.gone;
            facts[Teller.PER] = putting.per;
            facts[Teller.FIRST] = place == 0 ? 1 : 0;
            facts[Teller.LAST] = place == which.placesBy(putting.per) - 1 ? 1 : 0;
        }

        int heldWith(Text law, int role, int dull) {
            teller.facts[Teller.ROLE] = role;
            teller.facts[Teller.DULL] = dull;
            return teller.heldBy(law);
        }

        int oldAt(int pack, Putting putting, int door) {
            int found = 0;
            for (int other = 0; other < now.packCount; other++) {
                Pack which = now.packs[other];
                if (other != pack && which.isPut && which.putting.order < putting.order
                        && which.placeAt(putting.house, door) != NONE) {
                    found++;
                }
            }
            return found;
        }

        int likeAt(Pack which, Putting putting, int place) {
            int look = now.lookOf(putting.house, putting.door + place);
            int places = which.placesBy(putting.per);
            int found = 0;
            for (int other = 0; other < places; other++) {
                if (other != place && now.lookOf(putting.house, putting.door + other) == look) {
                    found++;
                }
            }
            return found;
        }
    }

    /** Which slips a card can be said by, and which one each thing said was. */
    private static final class Slips {
        /** Of each KIND in the draw; what is RIGHT is not drawn by weight. */
        private static final int[] WEIGHTS = {0, 3, 3, 2, 2, 1};
        private final State now;
        /** The card that each KIND would be for the card at hand, or NONE. */
        private final int[] slips = new int[SHIFTED + 1];

        Slips(State now) {
            this.now = now;
        }

        int kindOf(int pack, int i) {
            Pack which = now.packs[pack];
            int said = which.said[i];
            if (said == which.cardAt(i)) {
                return RIGHT;
            }
            if (said == NONE) {
                return BLANK;
            }
            find(pack, i);
            for (int kind = GHOST; kind <= SHIFTED; kind++) {
                if (slips[kind] == said) {
                    return kind;
                }
            }
            return OTHER;
        }

        /** Of the card that was looked at by find. */
        int weightOf(int kind) {
            return kind == BLANK || kind >= GHOST && kind <= SHIFTED && slips[kind] != NONE ? WEIGHTS[kind] : 0;
        }

        int allWeights() {
            int sum = 0;
            for (int kind = BLANK; kind <= SHIFTED; kind++) {
                sum += weightOf(kind);
            }
            return sum;
        }

        /** What is SAID by a DRAW that is not RIGHT; BLANKS come behind all slips. */
        int drawn(int pack, int i, int draw) {
            find(pack, i);
            int rest = draw % Math.max(1, allWeights());
            for (int kind = GHOST; kind <= SHIFTED; kind++) {
                int weight = weightOf(kind);
                if (rest < weight) {
                    return slips[kind];
                }
                rest -= weight;
            }
            return NONE;
        }

        void find(int pack, int i) {
            Pack which = now.packs[pack];
            int place = which.placeOf(i);
            int role = which.roleOf(i);
            int on = which.cardWith(place + 1, role);
            slips[GHOST] = ghostAt(pack, which.putting.door + place, role);
            slips[ALIKE] = alikeTo(which, place, role);
            slips[SWAPPED] = swappedWith(which, place, role);
            slips[SHIFTED] = on != NONE ? on : which.cardWith(place - 1, role);
        }

        private int ghostAt(int pack, int door, int role) {
            Putting putting = now.packs[pack].putting;
            int latest = NONE;
            int ghost = NONE;
            for (int other = 0; other < now.packCount; other++) {
                Pack which = now.packs[other];
                int place = which.placeAt(putting.house, door);
                int order = which.putting.order;
                if (place != NONE && order < putting.order && order > latest && which.cardWith(place, role) != NONE) {
                    latest = order;
                    ghost = which.cardWith(place, role);
                }
            }
            return ghost;
        }

        private int alikeTo(Pack which, int place, int role) {
            int house = which.putting.house;
            int look = now.lookOf(house, which.putting.door + place);
            int places = which.places();
            for (int other = 0; other < places; other++) {
                if (other != place && now.lookOf(house, which.putting.door + other) == look
                        && which.cardWith(other, role) != NONE) {
                    return which.cardWith(other, role);
                }
            }
            return NONE;
        }

        private int swappedWith(Pack which, int place, int role) {
            int cards = which.cardsAt(place);
            if (cards < 2) {
                return NONE;
            }
            return which.cardWith(place, role + 1 < cards ? role + 1 : 0);
        }
    }

    /** How many BLANKS are worth a guess. */
    private static final class Guesser {
        private final Teller teller;
        /** Of each of the first BLANKS: the place of its own card among those guessed of, or NONE. */
        private final int[] own = new int[GUESSES_MOST];
        /** In how many ways so many guesses are right. */
        private final int[] ways = new int[GUESSES_MOST + 1];
        int best = 0;
        long above = 0;
        long below = 1;

        Guesser(Teller teller) {
            this.teller = teller;
        }

        void weigh(Text rule, Pack pack) {
            int lacks = pack.lackCount();
            int pool = Math.min(lacks, GUESSED_OF);
            int most = Math.min(Math.min(pack.blanks(), lacks), GUESSES_MOST);
            findOwn(pack, pool, most);
            for (int guesses = 0; guesses <= most; guesses++) {
                Arrays.fill(ways, 0);
                spread(guesses, pool, 0, 0, 0);
                takeIfBetter(rule, pack, guesses);
            }
        }

        private void findOwn(Pack pack, int pool, int most) {
            int found = 0;
            for (int i = 0; i < pack.size && found < most; i++) {
                if (pack.said[i] == NONE) {
                    own[found] = NONE;
                    for (int k = 0; k < pool; k++) {
                        own[found] = pack.lackAt(k) == pack.cardAt(i) ? k : own[found];
                    }
                    found++;
                }
            }
        }

        private void spread(int guesses, int pool, int at, int used, int right) {
            if (at >= guesses || at >= GUESSES_MOST) {
                ways[right]++;
                return;
            }
            for (int k = 0; k < pool; k++) {
                if ((used >> k & 1) == 0) {
                    spread(guesses, pool, at + 1, used | 1 << k, right + (own[at] == k ? 1 : 0));
                }
            }
        }

        private void takeIfBetter(Text rule, Pack pack, int guesses) {
            long sum = 0;
            long all = 0;
            int right = pack.rightOnes();
            int blank = pack.blanks();
            for (int more = 0; more <= guesses; more++) {
                sum += ways[more] * teller.scoreOf(rule, right + more, blank - guesses, pack.size);
                all += ways[more];
            }
            if (guesses == 0 || sum * below > above * all) {
                best = guesses;
                above = sum;
                below = all;
            }
        }
    }

    /** Which of some PACKS would best be PUT in which HOUSE. */
    private static final class Planner {
        private final int[] packs = new int[PLANNED_MOST];
        private final int[] worths = new int[PLANNED_MOST * HOUSES_MOST];
        private final int[] tried = new int[PLANNED_MOST];
        private final int[] best = new int[PLANNED_MOST];
        private int size = 0;
        int bestSum = NONE;

        void begin() {
            size = 0;
            bestSum = NONE;
            Arrays.fill(worths, NONE);
        }

        void addPack(int pack) {
            if (size < PLANNED_MOST) {
                packs[size] = pack;
                size++;
            }
        }

        /** What a HOUSE is worth for the PACK that came last; NONE if it has no room. */
        void setWorth(int house, int worth) {
            if (size > 0) {
                worths[(size - 1) * HOUSES_MOST + house] = worth;
            }
        }

        void search() {
            settle(0, 0, 0);
        }

        int houseFor(int pack) {
            for (int k = 0; k < size; k++) {
                if (packs[k] == pack) {
                    return bestSum == NONE ? NONE : best[k];
                }
            }
            return NONE;
        }

        /** The least HOUSES are tried first, so of several plans the first one found stays. */
        private void settle(int at, int used, int sum) {
            if (at >= size) {
                if (sum > bestSum) {
                    bestSum = sum;
                    System.arraycopy(tried, 0, best, 0, size);
                }
                return;
            }
            for (int house = 0; house < HOUSES_MOST; house++) {
                int worth = worths[at * HOUSES_MOST + house];
                if (worth != NONE && (used >> house & 1) == 0) {
                    tried[at] = house;
                    settle(at + 1, used | 1 << house, sum + worth);
                }
            }
        }
    }

    /** Which card is missed most, and which two had better change their rows of the table. */
    private static final class Exchange {
        private final State now;
        private final Recall recall;
        private final int[] times = new int[CARDS];
        private final int[] missed = new int[CARDS];
        /** What a card in a role holds in all PACKS together, if it were so DULL there. */
        private final int[] sums = new int[CARDS * ROLES * DULLS];
        /** Bits of what cards are DULL, by role. */
        private final int[] present = new int[ROLES];

        Exchange(State now, Recall recall) {
            this.now = now;
            this.recall = recall;
        }

        int mostMissed() {
            countMissed();
            int worst = NONE;
            for (int card = 0; card < CARDS; card++) {
                if (missed[card] > 0
                        && (worst == NONE || missed[card] * times[worst] > missed[worst] * times[card])) {
                    worst = card;
                }
            }
            return worst;
        }

        private void countMissed() {
            Arrays.fill(times, 0);
            Arrays.fill(missed, 0);
            for (int pack = 0; pack < now.packCount; pack++) {
                Pack which = now.packs[pack];
                for (int i = 0; i < which.size && which.isPut; i++) {
                    int card = which.cardAt(i);
                    times[card]++;
                    missed[card] += which.said[i] == card ? 0 : 1;
                }
            }
        }

        int bestPair(Text law) {
            sumUp(law);
            int bestGain = 0;
            int best = NONE;
            for (int a = 0; a < CARDS; a++) {
                for (int b = a + 1; b < CARDS; b++) {
                    int gain = gainAs(a, b) + gainAs(b, a);
                    if (gain > bestGain) {
                        bestGain = gain;
                        best = CARDS * a + b;
                    }
                }
            }
            return best;
        }

        /** Only for what some card is DULL in the role: nothing else can be changed for. */
        private void sumUp(Text law) {
            Arrays.fill(sums, 0);
            Arrays.fill(present, 0);
            for (int k = 0; k < now.dulls.length; k++) {
                present[k % ROLES] |= 1 << now.dulls[k];
            }
            for (int pack = 0; pack < now.packCount; pack++) {
                Pack which = now.packs[pack];
                for (int i = 0; i < which.size && which.isPut; i++) {
                    int role = which.roleOf(i);
                    if (role == 0) {
                        recall.facePlace(pack, which.putting, which.placeOf(i), now.clock);
                    }
                    int row = (which.cardAt(i) * ROLES + role) * DULLS;
                    for (int dull = 0; dull < DULLS; dull++) {
                        sums[row + dull] += (present[role] >> dull & 1) == 1 ? recall.heldWith(law, role, dull) : 0;
                    }
                }
            }
        }

        /** What a card gains with another one's DULL in all roles. */
        private int gainAs(int card, int other) {
            int gain = 0;
            for (int role = 0; role < ROLES; role++) {
                int row = (card * ROLES + role) * DULLS;
                gain += sums[row + now.dulls[other * ROLES + role]] - sums[row + now.dulls[card * ROLES + role]];
            }
            return gain;
        }
    }
}
