/** The boundary cases of promises 27 to 43, a test for each sentence: plans, risks, weeks, changes, and the image. */
public final class BoundaryPlansTest extends Check {
    private static final int LEAST = Integer.MIN_VALUE;
    private static final int MOST = Integer.MAX_VALUE;
    private static final int[] NO_PACKS = {-1, 4, 8, LEAST, MOST};
    private static final int[] NO_HOUSES = {-1, 3, 6, LEAST, MOST};
    /** The rich room has laws 0 and 1. */
    private static final int[] NO_LAWS = {-1, 2, 3, LEAST, MOST};
    private static final long SURE = 1000000000000L;

    public static void main(String[] args) {
        runByName(BoundaryPlansTest.class, 27, 43);
        finish();
    }

    private static MemoryHouse withMoments(int... moments) {
        MemoryHouse x = Rooms.one(3, 1, 1);
        for (int moment : moments) {
            x.moment(moment);
        }
        return x;
    }

    // Promise 27

    static void promise27_theFirstIsAbove0() {
        for (int seconds : new int[] {0, -1, LEAST}) {
            refused(MemoryHouse::new, ARG, x -> x.moment(seconds));
        }
        due("1", new MemoryHouse().moment(1), 1);
    }

    static void promise27_notAboveTheOneBeforeIt() {
        // the last one is 90
        for (int seconds : new int[] {90, 89, 30, 1, 0, -1, LEAST}) {
            refused(Rooms::rich, ARG, x -> x.moment(seconds));
        }
        due("one more second", Rooms.rich().moment(91), 3);
    }

    static void promise27_above99999() {
        for (int seconds : new int[] {100000, MOST}) {
            refused(Rooms::rich, ARG, x -> x.moment(seconds));
            refused(MemoryHouse::new, ARG, x -> x.moment(seconds));
        }
        due("99999", new MemoryHouse().moment(99999), 1);
        refused(() -> withMoments(99999), ARG, x -> x.moment(99999));
        refused(() -> withMoments(99999), ARG, x -> x.moment(100000));
    }

    static void promise27_sixOfThem() {
        MemoryHouse x = new MemoryHouse();
        for (int k = 1; k <= 6; k++) {
            due("moment " + k, x.moment(99993 + k), k);
        }
        due("moments", x.count(8), 6);
    }

    static void promise27_aSeventh() {
        refused(Rooms::full, UNSUP, x -> x.moment(181));
        refused(Rooms::full, UNSUP, x -> x.moment(99999));
    }

    static void promise27_aSeventhThatIsNoneIsNoneFirst() {
        refused(Rooms::full, ARG, x -> x.moment(180));
        refused(Rooms::full, ARG, x -> x.moment(100000));
        refused(Rooms::full, ARG, x -> x.moment(0));
    }

    // Promise 28

    static void promise28_noneToPutAway() {
        due("none", new MemoryHouse().moments(), 0);
        leaves(MemoryHouse::new, MemoryHouse::moments);
    }

    static void promise28_allArePutAway() {
        MemoryHouse x = Rooms.full();
        due("six", x.moments(), 6);
        due("none are left", x.count(8), 0);
        due("none then", x.moments(), 0);
        due("an end of 0", x.again(0, 0, 6, 0, false), 0);
    }

    static void promise28_thenTheFirstIsAbove0Again() {
        MemoryHouse x = Rooms.full();
        x.moments();
        refused("0", ARG, () -> x.moment(0));
        due("1", x.moment(1), 1);
        for (int k = 2; k <= 6; k++) {
            due("moment " + k, x.moment(k), k);
        }
        refused("a seventh", UNSUP, () -> x.moment(7));
    }

    // Promise 29

    static void promise29_noSuchLaw() {
        for (int law : NO_LAWS) {
            refused(Rooms::rich, OUT, x -> x.again(law, 0, 1, 100, false));
        }
    }

    static void promise29_noSuchPack() {
        for (int pack : NO_PACKS) {
            refused(Rooms::rich, OUT, x -> x.again(0, pack, 1, 100, true));
        }
    }

    static void promise29_aPackThatIsNotPut() {
        refused(Rooms::rich, STATE, x -> x.again(0, 2, 1, 100, false));
    }

    static void promise29_mostIsBelow0() {
        for (int most : new int[] {-1, LEAST}) {
            refused(Rooms::rich, ARG, x -> x.again(0, 0, most, 100, false));
            refused(Rooms::rich, ARG, x -> x.again(0, 0, most, 100, true));
        }
    }

    static void promise29_theEndIsAheadOfTheLastMoment() {
        for (int end : new int[] {89, 30, 1, 0}) {
            refused(Rooms::rich, ARG, x -> x.again(0, 0, 1, end, false));
            refused(Rooms::rich, ARG, x -> x.again(0, 0, 0, end, true));
        }
    }

    static void promise29_theEndIsBelow0() {
        for (int end : new int[] {-1, LEAST}) {
            refused(Rooms::rich, ARG, x -> x.again(0, 0, 1, end, false));
            MemoryHouse x = withMoments();
            law(x, "add 1");
            refused("without moments", ARG, () -> x.again(0, 0, 1, end, false));
        }
    }

    static void promise29_theEndIsAbove99999() {
        for (int end : new int[] {100000, MOST}) {
            refused(Rooms::rich, ARG, x -> x.again(0, 0, 1, end, true));
        }
    }

    static void promise29_whichIsToldFirst() {
        refused(Rooms::rich, OUT, x -> x.again(2, 2, -1, -1, false));
        refused(Rooms::rich, OUT, x -> x.again(0, 4, -1, -1, false));
        refused(Rooms::rich, STATE, x -> x.again(0, 2, -1, -1, false));
    }

    private static void againIs(MemoryHouse x, int most, int end, int bits, int gain) {
        due("bits, at most " + most, x.again(0, 0, most, end, false), bits);
        due("gain, at most " + most, x.again(0, 0, most, end, true), gain);
    }

    private static MemoryHouse byMoments(String text, int... moments) {
        MemoryHouse x = withMoments(moments);
        law(x, text);
        return x;
    }

    static void promise29_theEndAtTheLastMoment() {
        // touched at the end itself: no age; without: 93, 92 and 91 seconds
        againIs(byMoments("add 90;less 1 * age", 30, 90), 2, 90, 2, 27);
    }

    static void promise29_theLastEndThatCanBe() {
        MemoryHouse x = byMoments("add 100;less 100 if age > 0", 99989, 99990);
        // 10 seconds of age at 99989, 9 at 99990
        againIs(x, 2, 99999, 2, 300);
        MemoryHouse y = byMoments("add 100;less 100 if age > 0", 99999);
        againIs(y, 1, 99999, 1, 300);
    }

    static void promise29_alsoAtTheClocksMost() {
        MemoryHouse x = new MemoryHouse();
        x.house(3);
        x.pack(0, 1, 3);
        x.put(0, 0, 0, 1, 55);
        x.later(1000000 - 165);
        x.moment(1);
        // 109890 and 119 less the age: without any 109999, 109994 and 109988, so that 10, 15 and 21 are left
        law(x, "add 999 * seconds;add 999 * seconds;add 119;less 1 * age");
        againIs(x, 1, 99999, 1, 300 - 46);
        due("the clock stands", x.count(4), 1000000);
    }

    static void promise29_noneAtMost() {
        againIs(byMoments("add 10 * gone", 10, 20, 30), 0, 100, 0, 0);
    }

    static void promise29_moreThanThereAre() {
        againIs(byMoments("add 10 * gone", 10, 20, 30), 3, 100, 7, 90);
        againIs(byMoments("add 10 * gone", 10, 20, 30), MOST, 100, 7, 90);
        againIs(byMoments("add 10 * gone", 1, 2, 3, 4, 5, 6), 6, 6, 63, 180);
        againIs(byMoments("add 10 * gone", 1, 2, 3, 4, 5, 6), 5, 6, 31, 150);
    }

    static void promise29_noMoments() {
        againIs(byMoments("add 10 * gone"), 6, 0, 0, 0);
        againIs(byMoments("add 10 * gone"), 6, 99999, 0, 0);
    }

    static void promise29_ofSeveralTheFewest() {
        againIs(byMoments("add 50", 10, 20), 2, 20, 0, 0);
        // the last one alone is as good as both
        againIs(byMoments("add 90;less 1 * age", 100, 200), 2, 200, 2, 60);
        // any that is there is good, and more are no better
        againIs(byMoments("add 5 if gone > 0", 10, 20, 30), 3, 30, 1, 15);
    }

    static void promise29_thenTheLeastBits() {
        againIs(byMoments("add 5 if gone > 1", 10, 20, 30), 3, 30, 3, 15);
        againIs(byMoments("add 5 if gone > 1", 10, 20, 30), 2, 30, 3, 15);
        againIs(byMoments("add 5 if gone > 1", 10, 20, 30), 1, 30, 0, 0);
        // gone twice, and the last at 20 or behind: 1 and 2
        againIs(byMoments("add 5 if gone > 1 and age < 2", 10, 20, 30), 3, 39, 3, 15);
        againIs(byMoments("add 5 if gone > 1 and age < 1", 10, 20, 30), 3, 39, 5, 15);
    }

    static void promise29_onlyIfItIsMore() {
        againIs(byMoments("add 50;less 10 * gone", 10, 20), 2, 20, 0, 0);
        againIs(byMoments("add 1 * age", 10, 20), 2, 1000, 0, 0);
    }

    static void promise29_goneIsCountedOn() {
        MemoryHouse x = byMoments("add 10 if gone > 2", 10, 20, 30);
        againIs(x, 2, 30, 0, 0);
        x.go(0, 1);
        againIs(x, 2, 30, 3, 30);
    }

    static void promise29_allPlacesAtOnce() {
        // put a minute apart: without 30, 90 and 150 seconds and more; touched at once all are as young
        MemoryHouse x = new MemoryHouse();
        x.house(3);
        x.pack(0, 1, 3);
        x.put(0, 0, 0, 1, 60);
        x.moment(30);
        law(x, "add 100 if age < 1");
        againIs(x, 1, 39, 1, 300);
        againIs(x, 1, 40, 0, 0);
    }

    static void promise29_whereAndWhenItWasPut() {
        MemoryHouse x = new MemoryHouse();
        x.house(20);
        x.house(20);
        for (int k = 0; k < 3; k++) {
            x.pack(0, 1, 3);
        }
        x.put(1, 1, 5, 3, 1);
        x.put(0, 1, 5, 1, 1);
        x.put(2, 1, 5, 3, 1);
        x.look(1, 6, 5);
        x.moment(10);
        law(x, "add 20 * gone if old > 0 and old < 2");
        law(x, "add 7 * gone if like > 0");
        // of its doors 5, 6 and 7 one pack was put ahead at 5 alone; 5 and 6 are alike
        due("old", x.again(0, 0, 1, 10, true), 20);
        due("like", x.again(1, 0, 1, 10, true), 14);
    }

    static void promise29_nothingIsChanged() {
        leaves(Rooms::rich, x -> x.again(0, 0, 2, 100, false));
    }

    // Promise 30

    static void promise30_noSuchLaw() {
        for (int law : NO_LAWS) {
            refused(Rooms::rich, OUT, x -> x.houses(law, 1, 1, 0));
        }
        refused(Rooms::rich, OUT, x -> x.houses(2, 0, 0, -1));
    }

    static void promise30_packsAreNone() {
        for (int packs : new int[] {0, 61, -1, LEAST, MOST}) {
            refused(Rooms::rich, ARG, x -> x.houses(0, packs, 1, 0));
        }
    }

    static void promise30_secondsAreNone() {
        for (int seconds : new int[] {0, 61, -1, LEAST, MOST}) {
            refused(Rooms::rich, ARG, x -> x.houses(0, 1, seconds, 0));
        }
    }

    static void promise30_hundredthsAreNone() {
        for (int least : new int[] {-1, 101, LEAST, MOST}) {
            refused(Rooms::rich, ARG, x -> x.houses(0, 1, 1, least));
        }
    }

    private static MemoryHouse by(String text) {
        MemoryHouse x = new MemoryHouse();
        law(x, text);
        return x;
    }

    static void promise30_theLeastAndTheMost() {
        due("one pack, nothing wanted", by("").houses(0, 1, 1, 0), 1);
        due("60 packs, 60 seconds, all", by("add 999").houses(0, 60, 60, 100), 1);
        due("all but one", by("add 99").houses(0, 60, 60, 100), NONE);
        due("as much", by("add 99").houses(0, 60, 60, 99), 1);
    }

    static void promise30_none() {
        due("nothing holds", by("").houses(0, 1, 60, 1), NONE);
        due("60 packs in 20 houses: two ahead", by("add 3;less 1 * old").houses(0, 60, 1, 2), NONE);
    }

    static void promise30_howManyWereAhead() {
        MemoryHouse x = by("add 60;less 1 * old");
        // the last of 60 has 59, 29, 19, 14, 11, 9, 8, 7, 6, 5, 5, 4, 4, 4, 3, 3, 3, 3, 3, 2 ahead of it
        due("59 ahead", x.houses(0, 60, 1, 1), 1);
        due("29 ahead", x.houses(0, 60, 1, 2), 2);
        due("5 ahead", x.houses(0, 60, 1, 55), 10);
        due("4 ahead", x.houses(0, 60, 1, 56), 12);
        due("3 ahead", x.houses(0, 60, 1, 57), 15);
        due("2 ahead", x.houses(0, 60, 1, 58), 20);
        due("1 ahead", x.houses(0, 60, 1, 59), NONE);
        due("one pack", x.houses(0, 1, 1, 60), 1);
        due("two packs", x.houses(0, 2, 1, 60), 2);
        due("20 packs", x.houses(0, 20, 1, 60), 20);
        due("21 packs", x.houses(0, 21, 1, 60), NONE);
        due("40 packs", x.houses(0, 40, 1, 59), 20);
        due("41 packs", x.houses(0, 41, 1, 59), NONE);
    }

    static void promise30_heldTo0And100() {
        due("below 0 is 0", by("less 999").houses(0, 1, 1, 0), 1);
        due("above 100 is 100", by("add 200;less 1 * old").houses(0, 60, 1, 100), 1);
    }

    static void promise30_allElseIs0() {
        MemoryHouse x = by("add 10 if dull + like + age + gone + role < 1 and not first and not last");
        due("all 0", x.houses(0, 60, 1, 10), 1);
        MemoryHouse y = by("add 10 if per > 2 and per < 4 and seconds > 59");
        due("per 3, 60 seconds", y.houses(0, 1, 60, 10), 1);
        due("59 seconds", y.houses(0, 1, 59, 10), NONE);
    }

    static void promise30_whateverWasAskedBefore() {
        MemoryHouse x = Rooms.one(3, 1, 60);
        law(x, "add 10 if dull + like + age + gone + role < 1 and not first and not last");
        x.go(0, 60);
        x.later(100);
        x.dull(0, 0, 9);
        due("the first place", x.holds(0, 0, 0), 0);
        due("behind it", x.houses(0, 1, 1, 10), 1);
        due("the last place", x.holds(0, 0, 2), 0);
        due("behind it", x.houses(0, 1, 1, 10), 1);
    }

    static void promise30_whateverThereIs() {
        MemoryHouse x = Rooms.full();
        x.dull(0, 0, 9);
        // 90 less 3 * old, whatever houses and packs there are
        due("one pack", x.houses(0, 1, 1, 90), 1);
        due("two packs", x.houses(0, 2, 1, 90), 2);
    }

    // Promise 31

    static void promise31_noHouses() {
        for (int bits : new int[] {0, 1, -1, LEAST, MOST}) {
            due("unlike", new MemoryHouse().unlike(bits, false), 0);
            due("pairs", new MemoryHouse().unlike(bits, true), 0);
        }
    }

    static void promise31_bitsOfNoneCountForNothing() {
        MemoryHouse x = new MemoryHouse();
        x.house(1);
        x.house(12);
        due("no bits", x.unlike(0, false), 0);
        due("bits of none", x.unlike(~3, false), 0);
        due("bits of none, pairs", x.unlike(~3, true), 0);
        due("one, and bits of none", x.unlike(~1, true), 2);
        due("all bits", x.unlike(-1, false), 10);
        due("all bits, pairs", x.unlike(-1, true), 3 + 1);
        due("house 31 is none", x.unlike(LEAST, true), 0);
        due("house 0 and the highest bit", x.unlike(LEAST + 1, false), 1);
    }

    static void promise31_allTheDoorsThatCanBe() {
        MemoryHouse x = Rooms.full();
        due("ten looks", x.unlike(63, false), 10);
        due("12 doors of each look", x.unlike(63, true), 10 * 66);
        for (int k = 0; k < 120; k++) {
            x.look(k / 20, k % 20, 9);
        }
        due("one look", x.unlike(63, false), 1);
        due("all pairs", x.unlike(63, true), 120 * 119 / 2);
    }

    static void promise31_oneDoor() {
        MemoryHouse x = new MemoryHouse();
        x.house(1);
        due("one", x.unlike(1, false), 1);
        due("no pair", x.unlike(1, true), 0);
    }

    // Promise 32

    static void promise32_noSuchLaw() {
        for (int law : NO_LAWS) {
            refused(Rooms::rich, OUT, x -> x.per(law, 0, 0, 1, false));
        }
    }

    static void promise32_noSuchPack() {
        for (int pack : NO_PACKS) {
            refused(Rooms::rich, OUT, x -> x.per(0, pack, 0, 1, false));
        }
    }

    static void promise32_noSuchHouse() {
        for (int house : NO_HOUSES) {
            refused(Rooms::rich, OUT, x -> x.per(0, 0, house, 1, true));
        }
    }

    static void promise32_secondsAreNone() {
        for (int seconds : new int[] {0, 10000, -1, LEAST, MOST}) {
            refused(Rooms::rich, ARG, x -> x.per(0, 0, 0, seconds, false));
            refused(Rooms::rich, ARG, x -> x.per(0, 0, 0, seconds, true));
        }
        refused(Rooms::rich, OUT, x -> x.per(0, 0, 3, 0, false));
    }

    private static MemoryHouse room(int doors, int cards, String text) {
        MemoryHouse x = by(text);
        x.house(doors);
        x.pack(0, 1, cards);
        return x;
    }

    private static void perIs(MemoryHouse x, int seconds, int per, int sum) {
        due("per, " + seconds + " seconds", x.per(0, 0, 0, seconds, false), per);
        due("sum, " + seconds + " seconds", x.per(0, 0, 0, seconds, true), sum);
    }

    static void promise32_roomToTheLastDoor() {
        String fewest = "add 4;less 1 * per";
        perIs(room(3, 3, fewest), 60, 1, 9);
        perIs(room(2, 3, fewest), 60, 2, 6);
        perIs(room(1, 3, fewest), 60, 3, 3);
        perIs(room(20, 20, fewest), 60, 1, 60);
        perIs(room(20, 21, fewest), 60, 2, 42);
        perIs(room(20, 40, fewest), 60, 2, 80);
        perIs(room(20, 41, fewest), 60, 3, 41);
        perIs(room(20, 52, fewest), 60, 3, 52);
    }

    static void promise32_noRoom() {
        perIs(room(1, 4, "add 50"), 9999, NONE, NONE);
        perIs(room(17, 52, "add 50"), 9999, NONE, NONE);
        perIs(room(18, 52, "add 50"), 9999, 3, 2600);
    }

    static void promise32_aSecondForEachPlace() {
        String fewest = "add 4;less 1 * per";
        perIs(room(20, 6, fewest), 6, 1, 18);
        perIs(room(20, 6, fewest), 5, 2, 12);
        perIs(room(20, 6, fewest), 3, 2, 12);
        perIs(room(20, 6, fewest), 2, 3, 6);
        perIs(room(20, 6, fewest), 1, NONE, NONE);
        perIs(room(20, 3, fewest), 1, 3, 3);
    }

    static void promise32_allByPlacesRoundedDown() {
        String seconds = "add 1 * seconds";
        // 6 cards: by 6, 3 and 2 places
        perIs(room(20, 6, seconds), 11, 3, 30);
        perIs(room(20, 6, seconds), 12, 3, 36);
        perIs(room(20, 6, seconds), 13, 3, 36);
        perIs(room(20, 6, seconds), 119, 3, 6 * 59);
    }

    static void promise32_sixtyAtMost() {
        String seconds = "add 1 * seconds";
        perIs(room(20, 6, seconds), 120, 3, 360);
        perIs(room(20, 6, seconds), 122, 3, 360);
        perIs(room(20, 6, seconds), 180, 2, 360);
        perIs(room(20, 6, seconds), 359, 2, 360);
        perIs(room(20, 6, seconds), 360, 1, 360);
        perIs(room(20, 6, seconds), 9999, 1, 360);
    }

    static void promise32_ofSeveralTheLeast() {
        perIs(room(20, 6, "add 50"), 60, 1, 300);
        perIs(room(20, 6, "add 50 if per > 1"), 60, 2, 300);
        perIs(room(20, 6, "add 50 if per > 2"), 60, 3, 300);
        perIs(room(20, 6, ""), 60, 1, 0);
        perIs(room(20, 6, "less 5"), 60, 1, 0);
    }

    static void promise32_asIfJustPut() {
        MemoryHouse x = room(20, 3, "add 50;less 1 * age;less 5 * gone;less 10 * old");
        perIs(x, 60, 1, 150);
        x.put(0, 0, 0, 3, 60);
        x.go(0, 60);
        x.later(100000);
        // put itself, long ago and gone through: but it is none of the others, and would be put just now
        perIs(x, 60, 1, 150);
        x.pack(0, 1, 3);
        x.put(1, 0, 2, 3, 1);
        // the other one is at door 2 alone
        perIs(x, 60, 2, 150);
    }

    static void promise32_noAgeAndNeverGoneAtEachPlace() {
        perIs(room(20, 20, "add 51;less 1 * age;less 1 * per"), 20, 1, 1000);
        MemoryHouse x = Rooms.one(3, 1, 1);
        law(x, "add 50;less 5 * gone");
        x.go(0, 1);
        x.moment(1);
        x.again(0, 0, 1, 1, true);
        due("gone, and asked of being gone again", x.per(0, 0, 0, 60, true), 150);
    }

    static void promise32_oldOfOthersPutAheadAndBehind() {
        MemoryHouse x = room(20, 3, "add 50;less 10 * old");
        x.pack(0, 1, 3);
        x.pack(0, 1, 3);
        x.put(1, 0, 0, 3, 1);
        x.put(0, 0, 0, 3, 1);
        x.put(2, 0, 0, 3, 1);
        // two others at door 0
        due("one to a place", x.per(0, 0, 0, 60, true), 30 + 50 + 50);
        due("per", x.per(0, 0, 0, 60, false), 1);
        x.house(1);
        due("another house", x.per(0, 0, 1, 60, true), 150);
    }

    static void promise32_nothingIsChanged() {
        leaves(Rooms::rich, x -> x.per(0, 2, 2, 60, false));
        leaves(Rooms::rich, x -> x.per(0, 0, 2, 60, true));
    }

    // Promise 33

    static void promise33_noSuchLaw() {
        for (int law : NO_LAWS) {
            refused(Rooms::rich, OUT, x -> x.plan(law, 4, 3, 1, NONE));
        }
    }

    static void promise33_noSuchPackAskedFor() {
        for (int what : new int[] {-2, 4, 8, LEAST, MOST}) {
            refused(Rooms::rich, OUT, x -> x.plan(0, 4, 3, 1, what));
        }
    }

    static void promise33_bitsOfNoPacks() {
        for (int set : new int[] {16, 20, 1 << 8, 1 << 30, LEAST, -1, ~3}) {
            refused(Rooms::rich, ARG, x -> x.plan(0, set, 3, 1, NONE));
        }
        refused(() -> by(""), ARG, x -> x.plan(0, 1, 3, 1, NONE));
    }

    static void promise33_packsThatArePut() {
        for (int set : new int[] {1, 2, 8, 5, 12}) {
            refused(Rooms::rich, ARG, x -> x.plan(0, set, 3, 1, NONE));
        }
        refused(Rooms::full, ARG, x -> x.plan(0, 128, 3, 1, NONE));
    }

    private static MemoryHouse eight() {
        MemoryHouse x = by("add 50;less 10 * old");
        for (int k = 0; k < 8; k++) {
            x.pack(5 * k, 1, 3);
        }
        for (int k = 0; k < 6; k++) {
            x.house(3);
        }
        return x;
    }

    static void promise33_moreThanFive() {
        refused(BoundaryPlansTest::eight, ARG, x -> x.plan(0, 63, 1, 1, NONE));
        refused(BoundaryPlansTest::eight, ARG, x -> x.plan(0, 255, 1, 1, NONE));
        refused(BoundaryPlansTest::eight, ARG, x -> x.plan(0, 252, 1, 1, 0));
    }

    static void promise33_fiveOfEight() {
        MemoryHouse x = eight();
        due("the first five", x.plan(0, 31, 1, 1, NONE), 750);
        due("the last five", x.plan(0, 0xF8, 1, 1, NONE), 750);
        for (int pack = 0; pack < 8; pack++) {
            due("house of pack " + pack, x.plan(0, 0xF8, 1, 1, pack), pack < 3 ? NONE : pack - 3);
        }
    }

    static void promise33_perOrSecondsAreNone() {
        for (int per : new int[] {0, 4, -1, LEAST, MOST}) {
            refused(Rooms::rich, ARG, x -> x.plan(0, 4, per, 1, NONE));
        }
        for (int seconds : new int[] {0, 61, -1, LEAST, MOST}) {
            refused(Rooms::rich, ARG, x -> x.plan(0, 4, 3, seconds, NONE));
        }
    }

    static void promise33_whichIsToldFirst() {
        refused(Rooms::rich, OUT, x -> x.plan(2, -1, 0, 0, 9));
        refused(Rooms::rich, OUT, x -> x.plan(0, -1, 0, 0, 4));
    }

    static void promise33_theLeastAndTheMostSeconds() {
        MemoryHouse x = room(3, 3, "add 1 * seconds;add 1 * per");
        due("1 second", x.plan(0, 1, 1, 1, NONE), 6);
        due("60 seconds, per 3", x.plan(0, 1, 3, 60, NONE), 189);
    }

    static void promise33_anEmptySet() {
        MemoryHouse x = Rooms.rich();
        due("nothing of none", x.plan(0, 0, 3, 1, NONE), 0);
        due("no house", x.plan(0, 0, 3, 1, 2), NONE);
        due("nothing without houses", by("").plan(0, 0, 1, 1, NONE), 0);
    }

    static void promise33_notOfTheSet() {
        MemoryHouse x = eight();
        due("pack 1 is not", x.plan(0, 5, 1, 1, 1), NONE);
        due("pack 2 is", x.plan(0, 5, 1, 1, 2), 1);
        due("one that is put is not", Rooms.rich().plan(0, 4, 3, 1, 0), NONE);
    }

    static void promise33_noPlan() {
        MemoryHouse x = by("add 50");
        x.pack(0, 1, 3);
        x.pack(0, 1, 3);
        x.pack(0, 1, 4);
        due("no houses", x.plan(0, 1, 3, 1, NONE), NONE);
        due("no house for it", x.plan(0, 1, 3, 1, 0), NONE);
        x.house(1);
        due("one house, one pack", x.plan(0, 1, 3, 1, NONE), 150);
        due("one house, two packs", x.plan(0, 3, 3, 1, NONE), NONE);
        due("no house for the first", x.plan(0, 3, 3, 1, 0), NONE);
        x.house(1);
        due("two houses, two packs", x.plan(0, 3, 3, 1, NONE), 300);
        due("no room for four cards", x.plan(0, 5, 3, 1, NONE), NONE);
        due("no room by twos", x.plan(0, 1, 2, 1, NONE), NONE);
    }

    static void promise33_eachAnotherHouse() {
        MemoryHouse x = by("add 50;less 10 * old");
        for (int k = 0; k < 4; k++) {
            x.pack(10 * k, 1, 3);
        }
        x.house(1);
        x.house(1);
        x.house(1);
        x.put(3, 0, 0, 3, 1);
        // house 0 is worse by 30 for each, so it is left to the last one if there are three
        due("two packs: not house 0", x.plan(0, 3, 3, 1, 0), 1);
        due("the second one", x.plan(0, 3, 3, 1, 1), 2);
        due("sum of two", x.plan(0, 3, 3, 1, NONE), 300);
        due("three packs: any has house 0, so the first", x.plan(0, 7, 3, 1, 0), 0);
        due("then 1", x.plan(0, 7, 3, 1, 1), 1);
        due("then 2", x.plan(0, 7, 3, 1, 2), 2);
        due("sum of three", x.plan(0, 7, 3, 1, NONE), 420);
    }

    static void promise33_ofSeveralTheLeastHouseForTheFirst() {
        MemoryHouse x = eight();
        for (int k = 0; k < 5; k++) {
            due("pack " + k, x.plan(0, 31, 1, 1, k), k);
        }
        x.put(7, 2, 0, 3, 1);
        // house 2 is worse now
        int[] want = {0, 1, 3, 4, 5};
        for (int k = 0; k < 5; k++) {
            due("pack " + k + " then", x.plan(0, 31, 1, 1, k), want[k]);
        }
    }

    static void promise33_allTogetherNotTheFirstAlone() {
        MemoryHouse x = by("add 50;less 30 * like");
        x.house(4);
        x.house(4);
        x.pack(0, 1, 3);
        x.pack(0, 1, 4);
        x.look(0, 3, 0);
        // the pack of four has two places alike in house 0, that of three has none
        due("the short one in house 0", x.plan(0, 3, 1, 1, 0), 0);
        due("the long one in house 1", x.plan(0, 3, 1, 1, 1), 1);
        x.look(0, 3, 3);
        x.look(1, 3, 0);
        due("now in house 1", x.plan(0, 3, 1, 1, 0), 1);
        due("the long one in house 0", x.plan(0, 3, 1, 1, 1), 0);
    }

    static void promise33_asIfPutAloneNow() {
        MemoryHouse x = by("add 50;less 10 * old;less 1 * age");
        x.house(1);
        x.house(1);
        x.pack(0, 1, 3);
        x.pack(0, 1, 3);
        x.later(5000);
        due("no age, and none is old for the other", x.plan(0, 3, 3, 60, NONE), 300);
    }

    static void promise33_nothingIsChanged() {
        leaves(Rooms::rich, x -> x.plan(0, 4, 3, 1, NONE));
        leaves(BoundaryPlansTest::eight, x -> x.plan(0, 31, 1, 1, 3));
    }

    // Promise 34

    static void promise34_noSuchLaw() {
        for (int law : NO_LAWS) {
            refused(Rooms::rich, OUT, x -> x.last(law, 1, 1));
        }
        refused(Rooms::rich, OUT, x -> x.last(2, 1, -1));
    }

    static void promise34_secondsAreNone() {
        for (int seconds : new int[] {-1, 10000, LEAST, MOST}) {
            refused(Rooms::rich, ARG, x -> x.last(0, 1, seconds));
        }
    }

    static void promise34_noneWithout() {
        MemoryHouse x = Rooms.rich();
        due("no bits", x.last(0, 0, 10), NONE);
        due("pack 2 is not put", x.last(0, 4, 10), NONE);
        due("bits of none", x.last(0, ~15, 10), NONE);
        due("no packs", by("").last(0, -1, 10), NONE);
    }

    static void promise34_allTheBitsOfEightPacks() {
        MemoryHouse x = Rooms.full();
        due("all of eight, as old as can be", x.last(0, 255, 10), 0);
        due("all bits", x.last(0, -1, 10), 0);
        due("the last one", x.last(0, 128, 10), 7);
        due("the last one and bits of none", x.last(0, ~127, 10), 7);
        due("bits of none", x.last(0, ~255, 10), NONE);
    }

    static void promise34_packsThatAreNotPutCountForNothing() {
        MemoryHouse x = Rooms.rich();
        due("1 of 1, 2 and none", x.last(1, ~9, 10), 1);
        due("3 of 2, 3 and none", x.last(1, LEAST + 12, 10), 3);
        due("all bits", x.last(1, -1, 10), 0);
    }

    private static MemoryHouse three(String text) {
        MemoryHouse x = by(text);
        x.house(20);
        for (int k = 0; k < 3; k++) {
            x.pack(0, 1, 3 + k);
            x.put(k, 0, 2 * k, 3, 1);
        }
        return x;
    }

    static void promise34_ofSeveralTheLeast() {
        MemoryHouse x = three("add 50");
        due("all alike", x.last(0, 7, 9999), 0);
        due("of two", x.last(0, 6, 9999), 1);
        due("in no time", x.last(0, 7, 0), 0);
        due("one alone", x.last(0, 4, 0), 2);
    }

    static void promise34_theLeastMore() {
        // each card loses as much: fewer cards lose less
        MemoryHouse x = three("add 100;less 1 * age");
        due("the shortest", x.last(0, 7, 100), 0);
        // each card gains as much: more cards gain more
        MemoryHouse y = three("add 1 * age");
        due("the longest", y.last(0, 7, 100), 2);
        due("of two the longer", y.last(0, 3, 100), 1);
    }

    static void promise34_theMostSeconds() {
        MemoryHouse x = three("add 100;less 100 if age > 999");
        // pack 0 was put at 0, pack 1 at 1 and 2; the clock is 5, and 10000 seconds are too old
        due("9994: none is yet", x.last(0, 3, 9994), 0);
        due("9995: pack 0 is, pack 1 is not", x.last(0, 3, 9995), 1);
        due("9996: so are three of pack 1", x.last(0, 3, 9996), 0);
        due("9999: all are, the shortest loses the least", x.last(0, 7, 9999), 0);
    }

    static void promise34_pastTheClocksMost() {
        // 101019 less the age: 9999 behind the most of the clock 20 are left of pack 0, and 25 of pack 1
        MemoryHouse x = by("add 999 * seconds;add 999 * seconds;add 999;add 120;less 1 * age");
        x.house(1);
        x.pack(0, 1, 3);
        x.pack(0, 1, 3);
        x.put(0, 0, 0, 3, 50);
        x.put(1, 0, 0, 3, 50);
        x.later(1000000 - 100);
        due("all hold now", x.last(0, 3, 0), 0);
        due("pack 1 loses less", x.last(0, 3, 9999), 1);
        due("the clock stands", x.count(4), 1000000);
    }

    static void promise34_nothingIsChanged() {
        leaves(Rooms::rich, x -> x.last(0, 15, 9999));
    }

    // Promise 35

    static void promise35_soManyAreNotTried() {
        for (int tried : new int[] {0, 7, -1, LEAST, MOST}) {
            refused(Rooms::rich, ARG, x -> x.chance(tried, 50));
        }
    }

    static void promise35_theChanceIsNone() {
        for (int n : new int[] {-1, 101, LEAST, MOST}) {
            refused(Rooms::rich, ARG, x -> x.chance(2, n));
            refused(Rooms::rich, ARG, x -> x.chance(6, n));
        }
    }

    static void promise35_theLeastAndTheMost() {
        for (int tried = 1; tried <= 6; tried++) {
            MemoryHouse x = new MemoryHouse();
            x.chance(tried, 100);
            due("sure of " + tried, x.risk(tried, true), SURE);
            due("by " + tried, x.risk(tried, false), tried);
            x.chance(tried, 0);
            due("no longer", x.risk(tried, true), 0);
        }
    }

    static void promise35_eachByItself() {
        MemoryHouse x = new MemoryHouse();
        for (int tried = 1; tried <= 6; tried++) {
            x.chance(tried, 10 * tried);
        }
        // all of six by 60 of 100, of five by 50, and so on
        due("six of six", x.risk(6, true), 46656000000L);
        x.chance(6, 0);
        due("five of five", x.risk(5, true), 31250000000L);
        x.chance(5, 0);
        due("four of four", x.risk(4, true), 25600000000L);
        x.chance(4, 0);
        due("three of three", x.risk(3, true), 27000000000L);
        x.chance(3, 0);
        due("two of two", x.risk(2, true), 40000000000L);
        x.chance(2, 0);
        due("one of one", x.risk(1, true), 100000000000L);
    }

    // Promise 36

    static void promise36_soManyAreNone() {
        for (int whole : new int[] {-1, 7, LEAST, MOST}) {
            refused(Rooms::rich, ARG, x -> x.risk(whole, false));
            refused(Rooms::rich, ARG, x -> x.risk(whole, true));
        }
    }

    static void promise36_0AtFirst() {
        for (int whole = 1; whole <= 6; whole++) {
            due("no odds of " + whole, new MemoryHouse().risk(whole, true), 0);
            due("the least of " + whole, new MemoryHouse().risk(whole, false), 1);
        }
    }

    static void promise36_noneWanted() {
        MemoryHouse x = Rooms.rich();
        due("sure", x.risk(0, true), SURE);
        due("the least", x.risk(0, false), 1);
    }

    static void promise36_allOfSixAndMoreThanAreTried() {
        MemoryHouse x = new MemoryHouse();
        for (int tried = 1; tried <= 5; tried++) {
            x.chance(tried, 100);
        }
        x.chance(6, 1);
        due("six of six", x.risk(6, true), 1);
        due("by six", x.risk(6, false), 6);
        due("five of five", x.risk(5, true), SURE);
        due("by five", x.risk(5, false), 5);
    }

    static void promise36_ofSeveralTheLeast() {
        MemoryHouse x = new MemoryHouse();
        for (int tried = 1; tried <= 6; tried++) {
            x.chance(tried, 100);
        }
        for (int whole = 1; whole <= 6; whole++) {
            due("least for " + whole, x.risk(whole, false), whole);
        }
    }

    static void promise36_atLeastSoMany() {
        MemoryHouse x = new MemoryHouse();
        x.chance(2, 50);
        due("one or two of two", x.risk(1, true), 750000000000L);
        due("two of two", x.risk(2, true), 250000000000L);
        x.chance(6, 50);
        long[] ways = {64, 63, 57, 42, 22, 7, 1};
        for (int whole = 3; whole <= 6; whole++) {
            due(whole + " of six", x.risk(whole, true), SURE / 64 * ways[whole]);
            due("by six", x.risk(whole, false), 6);
        }
        due("one of six", x.risk(1, true), SURE / 64 * ways[1]);
        x.chance(1, 99);
        due("one of one is more", x.risk(1, false), 1);
        x.chance(1, 98);
        due("one of six is more", x.risk(1, false), 6);
    }

    static void promise36_partsOfAll() {
        MemoryHouse x = new MemoryHouse();
        x.chance(6, 99);
        // 99 to the 6th, and 6 times 99 to the 5th more
        due("six of six", x.risk(6, true), 941480149401L);
        due("five of six", x.risk(5, true), 941480149401L + 6L * 9509900499L);
        due("one of six: all but one part", x.risk(1, true), SURE - 1);
    }

    // Promise 37

    static void promise37_theNumberIsNone() {
        for (int n : new int[] {-1, 10000, LEAST, MOST}) {
            refused(Rooms::rich, ARG, x -> x.week(n));
        }
    }

    static void promise37_theLeastAndTheMost() {
        MemoryHouse x = new MemoryHouse();
        due("0", x.week(0), 1);
        due("9999", x.week(9999), 2);
        due("weeks", x.count(7), 2);
    }

    static void promise37_twentyWeeks() {
        MemoryHouse x = new MemoryHouse();
        for (int k = 1; k <= 20; k++) {
            due("week " + k, x.week(k), k);
        }
        due("weeks", x.count(7), 20);
    }

    static void promise37_aTwentyFirst() {
        refused(Rooms::full, UNSUP, x -> x.week(0));
        refused(Rooms::full, UNSUP, x -> x.week(9999));
    }

    static void promise37_aTwentyFirstThatIsNoneIsNoneFirst() {
        refused(Rooms::full, ARG, x -> x.week(-1));
        refused(Rooms::full, ARG, x -> x.week(10000));
    }

    // Promise 38

    static void promise38_theGoalIsNone() {
        for (int goal : new int[] {-1, 10000, LEAST, MOST}) {
            refused(Rooms::rich, ARG, x -> x.rates(goal, 0));
        }
    }

    static void promise38_anotherWhat() {
        for (int what : new int[] {-1, 5, LEAST, MOST}) {
            refused(Rooms::rich, NOSUCH, x -> x.rates(0, what));
        }
    }

    static void promise38_theGoalIsToldFirst() {
        refused(Rooms::rich, ARG, x -> x.rates(10000, 5));
        refused(Rooms::rich, ARG, x -> x.rates(-1, -1));
    }

    private static void ratesAre(MemoryHouse x, int goal, int... want) {
        for (int what = 0; what <= 4; what++) {
            due("rates " + goal + ", " + what, x.rates(goal, what), want[what]);
        }
    }

    private static MemoryHouse weeks(int... weeks) {
        MemoryHouse x = new MemoryHouse();
        for (int week : weeks) {
            x.week(week);
        }
        return x;
    }

    static void promise38_withoutAWeek() {
        ratesAre(weeks(), 0, 101, 0, 100, NONE, NONE);
        ratesAre(weeks(), 9999, 101, 0, 100, NONE, NONE);
    }

    static void promise38_oneWeek() {
        ratesAre(weeks(0), 9999, 101, 0, 100, 0, 9999);
        ratesAre(weeks(9999), 0, 101, 0, 100, 0, 9999);
        ratesAre(weeks(0), 0, 101, 0, 100, 0, 0);
        ratesAre(weeks(9999), 9999, 101, 0, 100, 9999, 9999);
    }

    static void promise38_withoutRates() {
        ratesAre(weeks(10, 20), 10, 0, NONE, NONE, NONE, NONE);
        ratesAre(weeks(0, 9999, 0), 5000, 0, NONE, NONE, NONE, NONE);
    }

    static void promise38_to1MoreOrLess() {
        // 100 to 200: RATE above 100; 150 to 1 more or less
        ratesAre(weeks(100, 150), 200, 3, 49, 51, 174, 175);
        // goal 100: the week stays at 100 by all
        ratesAre(weeks(100, 101), 100, 101, 0, 100, 100, 101);
        ratesAre(weeks(100, 99), 100, 101, 0, 100, 99, 100);
        ratesAre(weeks(100, 102), 100, 0, NONE, NONE, NONE, NONE);
        ratesAre(weeks(100, 98), 100, 0, NONE, NONE, NONE, NONE);
    }

    static void promise38_theLeastAndTheGreatestRate() {
        // 0 to 9999: the rates 0 and 100 alone
        ratesAre(weeks(0, 0), 9999, 1, 0, 0, 0, 0);
        ratesAre(weeks(0, 9999), 9999, 1, 100, 100, 9999, 9999);
        ratesAre(weeks(0, 9998), 9999, 1, 100, 100, 9999, 9999);
        ratesAre(weeks(0, 9997), 9999, 0, NONE, NONE, NONE, NONE);
        ratesAre(weeks(9999, 0), 0, 1, 100, 100, 0, 0);
        ratesAre(weeks(9999, 1), 0, 1, 100, 100, 0, 0);
        ratesAre(weeks(9999, 9999), 0, 1, 0, 0, 9999, 9999);
    }

    static void promise38_roundedTowardsBelow() {
        // above: 5 and RATE times 5 by 100: 7 from 40 on; below: 10 less RATE times 5 by 100: 7 from 41 on, to 60
        MemoryHouse up = weeks(5, 8);
        // 7 to 9: 40 to 99
        due("least upwards", up.rates(10, 1), 40);
        due("greatest upwards", up.rates(10, 2), 99);
        due("how many upwards", up.rates(10, 0), 60);
        MemoryHouse down = weeks(10, 6);
        // 5 to 7: 41 to 100
        due("least downwards", down.rates(5, 1), 41);
        due("greatest downwards", down.rates(5, 2), 100);
        due("how many downwards", down.rates(5, 0), 60);
        // 6 less RATE by 100: 5 by all of them
        due("next at least", down.rates(5, 3), 5);
        due("next at most", down.rates(5, 4), 5);
        ratesAre(weeks(10), 9, 101, 0, 100, 9, 10);
    }

    static void promise38_eachWeekFromTheOneBeforeIt() {
        // 0, 50, 75 of 100 by halves
        ratesAre(weeks(0, 50, 75), 100, 3, 49, 51, 87, 87);
        ratesAre(weeks(0, 50, 76), 100, 2, 50, 51, 88, 88);
        ratesAre(weeks(0, 50, 73), 100, 1, 49, 49, 86, 86);
        ratesAre(weeks(0, 50, 78), 100, 0, NONE, NONE, NONE, NONE);
        ratesAre(weeks(0, 50, 75, 0), 100, 0, NONE, NONE, NONE, NONE);
    }

    static void promise38_nextWeekOfTheGreatestOfTwo() {
        // 75 by 50 of 150, 76 by 51; next 112 and 113
        ratesAre(weeks(0, 75), 150, 2, 50, 51, 112, 113);
        // towards below: 75 by 50, 73 by 51 is none, 76 by 49
        ratesAre(weeks(150, 75), 0, 2, 49, 50, 37, 38);
    }

    static void promise38_twentyWeeks() {
        MemoryHouse x = new MemoryHouse();
        for (int k = 0; k < 20; k++) {
            x.week(k % 2);
        }
        // from 1 towards 2: rate 100 alone goes on to 2, and that is 2 off
        ratesAre(x, 2, 100, 0, 99, 1, 1);
    }

    // Promise 39

    static void promise39_noneIsPut() {
        MemoryHouse x = new MemoryHouse();
        due("no packs", x.dullest(), NONE);
        x.pack(0, 1, 3);
        due("a pack that is not put", x.dullest(), NONE);
    }

    static void promise39_allWereRight() {
        MemoryHouse x = Rooms.one(3, 1, 1);
        for (int i = 0; i < 3; i++) {
            due("not yet", x.dullest(), i);
            x.say(0, i, i);
        }
        due("none", x.dullest(), NONE);
        x.pack(40, 1, 3);
        due("one more that is not put", x.dullest(), NONE);
        x.put(1, 0, 0, 1, 1);
        due("put: its blanks count", x.dullest(), 40);
    }

    static void promise39_ofSeveralTheLeast() {
        MemoryHouse x = new MemoryHouse();
        x.house(20);
        x.pack(1, 51, 3);
        x.put(0, 0, 0, 1, 1);
        // 1 0 51
        due("0", x.dullest(), 0);
        x.say(0, 1, 0);
        due("1", x.dullest(), 1);
        x.say(0, 0, 1);
        due("51", x.dullest(), 51);
        x.say(0, 2, 50);
        due("a wrong one counts as a blank", x.dullest(), 51);
        x.say(0, 2, 51);
        due("none", x.dullest(), NONE);
    }

    static void promise39_askedBeforeCountsForNothing() {
        MemoryHouse x = Rooms.one(3, 1, 1);
        due("0", x.dullest(), 0);
        x.pack(20, 1, 3);
        x.put(1, 0, 3, 1, 1);
        due("all are blank once of once", x.dullest(), 0);
        due("and still", x.dullest(), 0);
    }

    static void promise39_inPartOfAllTimes() {
        MemoryHouse x = new MemoryHouse();
        x.house(1);
        for (int k = 0; k < 8; k++) {
            x.pack(k < 7 ? 10 : 20, 1, 3);
            x.put(k, 0, 0, 3, 1);
            for (int i = 1; i < 3; i++) {
                x.say(k, i, x.card(k, i));
            }
        }
        // 10: blank 7 times of 7; 20: once of once
        due("as fractions alike: the least", x.dullest(), 10);
        x.say(0, 0, 10);
        due("6 of 7 is less than 1 of 1", x.dullest(), 20);
        x.say(7, 0, 20);
        due("6 of 7", x.dullest(), 10);
        x.say(7, 0, NONE);
        x.say(1, 2, NONE);
        due("1 of 1 again", x.dullest(), 20);
    }

    // Promise 40

    static void promise40_noSuchLaw() {
        for (int law : NO_LAWS) {
            refused(Rooms::rich, OUT, x -> x.change(law));
        }
        refused(Rooms::full, OUT, x -> x.change(3));
    }

    static void promise40_noneRaisesIt() {
        due("nothing is put", by("add 5 * dull").change(0), NONE);
        MemoryHouse x = Rooms.one(3, 1, 1);
        law(x, "add 50;less 1 * dull");
        due("none is dull", x.change(0), NONE);
        x.dull(50, 0, 9);
        due("one that is not there", x.change(0), NONE);
        x.dull(0, 1, 9);
        due("another role", x.change(0), NONE);
        x.pack(20, 1, 3);
        x.dull(20, 0, 5);
        due("a pack that is not put", x.change(0), NONE);
        x.put(1, 0, 0, 1, 1);
        due("put", x.change(0), 52 * 3 + 20);
    }

    static void promise40_ofSeveralTheFirst() {
        MemoryHouse x = Rooms.one(3, 1, 1);
        law(x, "add 50;add 1 * dull");
        // as dull as each other and not there: 50 and 51 for 0, 1 or 2
        x.dull(50, 0, 4);
        x.dull(51, 0, 4);
        due("0 and 50", x.change(0), 50);
        x.dull(0, 0, 4);
        due("1 and 50", x.change(0), 52 + 50);
        x.dull(50, 0, 3);
        due("1 and 51, that raises more", x.change(0), 52 + 51);
    }

    static void promise40_theLastTwoCards() {
        MemoryHouse x = new MemoryHouse();
        x.house(1);
        x.pack(51, 51, 3);
        x.put(0, 0, 0, 3, 1);
        law(x, "add 50;less 1 * dull");
        for (int card = 0; card < 52; card++) {
            for (int role = 0; role < 3; role++) {
                x.dull(card, role, 5);
            }
        }
        due("all as dull", x.change(0), NONE);
        x.dull(50, 0, 1);
        // 51 is the who, 50 the what
        due("50 and 51", x.change(0), 52 * 50 + 51);
    }

    static void promise40_theLastCardInTheLastRole() {
        MemoryHouse x = new MemoryHouse();
        x.house(1);
        x.pack(49, 1, 3);
        x.put(0, 0, 0, 3, 1);
        law(x, "add 50;less 1 * dull");
        due("none is dull", x.change(0), NONE);
        x.dull(51, 2, 9);
        due("0 and 51", x.change(0), 51);
        for (int card = 0; card < 49; card++) {
            x.dull(card, 2, 9);
        }
        // 49 and 50 are no whoms, and not dull as one
        due("49 and 51", x.change(0), 52 * 49 + 51);
        x.dull(49, 2, 8);
        due("50 and 51", x.change(0), 52 * 50 + 51);
    }

    static void promise40_heldTo0And100() {
        MemoryHouse x = Rooms.one(3, 1, 1);
        law(x, "add 200;less 10 * dull");
        law(x, "add 10;less 10 * dull");
        x.dull(0, 0, 9);
        due("still 100", x.change(0), NONE);
        due("from 0 to 10, by the first that is not dull and not there", x.change(1), 3);
        x.dull(1, 0, 2);
        due("both from 0: the first", x.change(1), 3);
    }

    static void promise40_eightPacks() {
        MemoryHouse x = Rooms.full();
        due("a law without dull", x.change(0), NONE);
        x.dull(1, 0, 9);
        due("still", x.change(2), NONE);
    }

    static void promise40_eachPlaceByItself() {
        MemoryHouse x = Rooms.one(6, 2, 1);
        law(x, "add 50;less 5 * dull if last");
        law(x, "add 50;less 5 * dull if first");
        law(x, "add 50;less 5 * dull if not first and not last");
        x.dull(4, 0, 9);
        x.dull(5, 1, 8);
        x.dull(2, 0, 3);
        // 0 and 1 at the first place, 2 and 3 at the middle one, 4 and 5 at the last one, where each helps the other
        due("by the last place: 4 and 5", x.change(0), 52 * 4 + 5);
        due("by the first place: none is dull there", x.change(1), NONE);
        due("by the middle place: 0 and 2", x.change(2), 2);
        x.dull(4, 0, 0);
        due("by the last place then: 0 and 5", x.change(0), 5);
        x.dull(1, 1, 2);
        due("by the first place then: 0 and 1", x.change(1), 1);
    }

    static void promise40_bothCardsCount() {
        MemoryHouse x = Rooms.one(3, 3, 1);
        law(x, "add 50;less 5 * dull");
        x.dull(0, 0, 9);
        x.dull(1, 1, 9);
        // 0 is the who, 1 the what: each with the other's row is not dull
        due("0 and 1", x.change(0), 1);
        x.dull(3, 0, 1);
        x.dull(3, 1, 1);
        due("still", x.change(0), 1);
        x.dull(0, 1, 9);
        x.dull(1, 0, 9);
        // now each would be as dull: 0 or 1 with any other but 3
        due("0 with 2, who is the whom", x.change(0), 2);
    }

    static void promise40_allPacksTogether() {
        MemoryHouse x = Rooms.one(3, 3, 1);
        law(x, "add 50;less 5 * dull");
        x.pack(0, 1, 3);
        x.put(1, 0, 5, 1, 1);
        // card 1 is a what once and a who once; card 0 a who twice
        x.dull(1, 0, 5);
        x.dull(1, 1, 5);
        x.dull(0, 0, 4);
        due("card 1 gains 50, card 0 gains 40", x.change(0), 52 + 3);
        x.dull(0, 0, 6);
        due("card 0 gains 60", x.change(0), 3);
    }

    static void promise40_nothingIsChanged() {
        leaves(Rooms::rich, x -> x.change(0));
    }

    // Promise 41

    static void promise41_anImageChangesNothing() {
        MemoryHouse x = Rooms.rich();
        x.image();
        due("packs put", x.count(3), 3);
        due("the tape", x.end(30), true);
        due("the fault", x.fault(), 8);
    }

    static void promise41_theLatestImageAlone() {
        MemoryHouse x = new MemoryHouse();
        x.image();
        x.house(1);
        x.image();
        x.house(2);
        due("back", x.back(), true);
        due("one house", x.count(0), 1);
        due("back again", x.back(), true);
        due("not to the first image", x.count(0), 1);
    }

    private static MemoryHouse withImageOfItself(MemoryHouse x) {
        x.image();
        return x;
    }

    private static void changeAll(MemoryHouse x) {
        x.house(3);
        x.pack(0, 1, 3);
        x.put(x.count(2) - 1, x.count(0) - 1, 0, 1, 1);
        x.say(x.count(2) - 1, 0, 0);
        x.go(x.count(2) - 1, 1);
        x.look(0, 0, 9);
        x.dull(5, 1, 5);
        x.week(1);
        x.moment(99999);
        x.chance(1, 5);
        x.later(9);
    }

    static void promise41_theImageOfANewObject() {
        same("new again", Whole.of(() -> withImageOfItself(new MemoryHouse()), true), Whole.of(() -> {
            MemoryHouse x = withImageOfItself(new MemoryHouse());
            changeAll(x);
            x.back();
            return x;
        }, true));
    }

    static void promise41_laterChangesAreNotOfTheImage() {
        same("as it was", Whole.of(() -> withImageOfItself(Rooms.rich()), true), Whole.of(() -> {
            MemoryHouse x = withImageOfItself(Rooms.rich());
            changeAll(x);
            x.say(0, 0, 9);
            x.go(0, 9);
            x.put(2, 2, 0, 3, 9);
            x.back();
            return x;
        }, true));
    }

    static void promise41_changesBehindGoingBackAreNotOfTheImage() {
        same("as it was", Whole.of(() -> withImageOfItself(Rooms.rich()), true), Whole.of(() -> {
            MemoryHouse x = withImageOfItself(Rooms.rich());
            x.back();
            changeAll(x);
            x.say(0, 0, 9);
            x.back();
            return x;
        }, true));
    }

    // Promise 42

    static void promise42_noneWasKept() {
        due("false", new MemoryHouse().back(), false);
        leaves(MemoryHouse::new, MemoryHouse::back);
        leaves(BoundaryPlansTest::eight, MemoryHouse::back);
        MemoryHouse x = eight();
        due("false with much to lose", x.back(), false);
        due("nothing happens", x.count(2), 8);
        due("false again", x.back(), false);
    }

    static void promise42_againAndAgain() {
        MemoryHouse x = Rooms.full();
        for (int k = 0; k < 5; k++) {
            due("back", x.back(), true);
            due("the clock", x.count(4) < 1000000, true);
            x.later(1);
        }
    }

    static void promise42_theTapeStays() {
        MemoryHouse x = Rooms.one(3, 1, 1);
        x.image();
        feed(x, "add 7");
        x.end(5);
        x.back();
        due("five bytes", x.end(6), false);
        due("a law of it", x.law(), 0);
        due("7", x.holds(0, 0, 0), 7);
        MemoryHouse y = Rooms.one(3, 1, 1);
        feed(y, "add 7");
        y.image();
        y.end(0);
        y.back();
        due("bytes do not come back", y.end(1), false);
    }

    static void promise42_theFaultStays() {
        MemoryHouse x = new MemoryHouse();
        x.image();
        refused("a wrong law", ARG, () -> law(x, "add 1;"));
        x.back();
        due("6", x.fault(), 6);
        x.image();
        law(x, "");
        x.back();
        due("none", x.fault(), NONE);
    }

    static void promise42_lawsAndRulesAreThoseOfTheImage() {
        MemoryHouse x = Rooms.one(3, 1, 1);
        law(x, "add 1");
        rule(x, "add 1");
        x.image();
        law(x, "add 2");
        rule(x, "add 2");
        x.back();
        due("one law", x.count(5), 1);
        due("one rule", x.count(6), 1);
        refused("law 1", OUT, () -> x.holds(1, 0, 0));
        refused("rule 1", OUT, () -> x.score(1, 0));
        due("law 1 anew", law(x, "add 3"), 1);
        due("its own", x.holds(1, 0, 0), 3);
        due("law 0", x.holds(0, 0, 0), 1);
        due("rule 1 anew", rule(x, "add 4"), 1);
        due("its own", x.score(1, 0), 4);
    }

    static void promise42_looksAndTheTableAreThoseOfTheImage() {
        MemoryHouse x = Rooms.one(3, 1, 1);
        x.look(0, 0, 9);
        x.dull(51, 2, 9);
        x.image();
        x.look(0, 0, 1);
        x.look(0, 19, 0);
        x.dull(51, 2, 1);
        x.back();
        due("door 0 is like 9 and 19, no longer like 10", x.unlike(1, true), 11);
        due("nor like door 1", x.about(0, 0, 5), 0);
        due("dull", x.dull(51, 2, 0), 9);
    }

    static void promise42_momentsAreThoseOfTheImage() {
        MemoryHouse x = Rooms.one(3, 1, 1);
        law(x, "add 90;less 1 * age");
        x.moment(10);
        x.moment(20);
        x.image();
        x.moments();
        x.moment(5);
        x.moment(500);
        x.moment(501);
        x.back();
        due("two", x.count(8), 2);
        refused("19 is ahead of the last", ARG, () -> x.again(0, 0, 1, 19, false));
        due("20 is not", x.again(0, 0, 1, 20, false), 2);
        refused("20 is not above it", ARG, () -> x.moment(20));
        due("21 is", x.moment(21), 3);
        MemoryHouse y = Rooms.one(3, 1, 1);
        y.image();
        y.moment(9);
        y.back();
        due("none", y.moments(), 0);
    }

    static void promise42_aPackThatWasGoneIsNotIfPutAnew() {
        MemoryHouse x = new MemoryHouse();
        x.house(1);
        x.pack(0, 1, 3);
        x.image();
        x.put(0, 0, 0, 3, 1);
        x.go(0, 1);
        x.go(0, 1);
        x.back();
        due("the clock", x.count(4), 0);
        x.put(0, 0, 0, 3, 1);
        due("once", x.go(0, 1), 1);
        x.image();
        x.go(0, 1);
        x.back();
        due("twice again", x.go(0, 1), 2);
    }

    static void promise42_theOrderOfPutting() {
        MemoryHouse x = new MemoryHouse();
        x.house(1);
        for (int k = 0; k < 3; k++) {
            x.pack(10 * k, 1, 3);
        }
        x.put(0, 0, 0, 3, 1);
        x.image();
        x.put(1, 0, 0, 3, 1);
        x.put(2, 0, 0, 3, 1);
        due("two are old", x.about(2, 0, 4), 2);
        x.back();
        refused("no longer put", STATE, () -> x.about(2, 0, 4));
        x.put(2, 0, 0, 3, 1);
        due("one is old", x.about(2, 0, 4), 1);
        x.put(1, 0, 0, 3, 1);
        due("two are", x.about(1, 0, 4), 2);
        due("the ghost is of pack 2", x.say(1, 0, 20), 2);
    }

    // Promise 43

    static void promise43_anotherWhat() {
        for (int what : new int[] {-1, 10, LEAST, MOST}) {
            due("count " + what, Rooms.rich().count(what), NONE);
            leaves(Rooms::rich, x -> x.count(what));
        }
    }

    static void promise43_eachOfThem() {
        int[] want = {3, 37, 4, 3, 0, 2, 2, 2, 2, 2};
        MemoryHouse x = Rooms.rich();
        // 3 places of 7, 3 of 5, 4 of 9, 3 of 4, and 123
        want[4] = 21 + 15 + 36 + 12 + 123;
        for (int what = 0; what <= 9; what++) {
            due("count " + what, x.count(what), want[what]);
        }
    }

    static void promise43_theMostOfEach() {
        int[] want = {6, 120, 8, 8, 1000000, 3, 3, 20, 6, 1};
        for (int what = 0; what <= 9; what++) {
            due("count " + what, Rooms.full().count(what), want[what]);
        }
    }

    static void promise43_rightInAll() {
        MemoryHouse x = new MemoryHouse();
        x.house(20);
        law(x, "add 100");
        for (int k = 0; k < 8; k++) {
            x.pack(0, 1, 52);
            x.put(k, 0, 0, 3, 1);
            x.run(0, k, k);
            due("right in all", x.count(9), 52 * (k + 1));
        }
        x.say(3, 0, NONE);
        x.say(4, 0, 1);
        due("two less", x.count(9), 52 * 8 - 2);
    }
}
