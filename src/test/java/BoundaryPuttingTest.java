import java.util.function.Consumer;

/** The boundary cases of promises 7 to 15, a test for each sentence: the table, houses, packs, the clock. */
public final class BoundaryPuttingTest extends Check {
    private static final int CLOCK_MOST = 1000000;
    private static final int LEAST = Integer.MIN_VALUE;
    private static final int MOST = Integer.MAX_VALUE;

    public static void main(String[] args) {
        runByName(BoundaryPuttingTest.class, 7, 15);
        finish();
    }

    /** Refused by an object that has something of all and by one that is full, both left as they were. */
    private static void refusedByBoth(Class<?> by, Consumer<MemoryHouse> call) {
        refused(Rooms::rich, by, call);
        refused(Rooms::full, by, call);
    }

    /** A house of 20 doors and a pack that is not PUT. */
    private static MemoryHouse notPut(int cards) {
        MemoryHouse x = new MemoryHouse();
        x.house(20);
        x.pack(0, 1, cards);
        return x;
    }

    // Promise 7

    static void promise07_noSuchCard() {
        for (int card : new int[] {-1, 52, LEAST, MOST}) {
            refusedByBoth(OUT, x -> x.dull(card, 0, 0));
        }
    }

    static void promise07_noSuchRole() {
        for (int role : new int[] {-1, 3, LEAST, MOST}) {
            refusedByBoth(OUT, x -> x.dull(0, role, 0));
        }
    }

    static void promise07_theNumberIsNone() {
        for (int n : new int[] {-1, 10, LEAST, MOST}) {
            refusedByBoth(ARG, x -> x.dull(1, 1, n));
        }
    }

    static void promise07_noSuchCardIsToldFirst() {
        refused(Rooms::rich, OUT, x -> x.dull(52, 0, 10));
        refused(Rooms::rich, OUT, x -> x.dull(0, 3, -1));
    }

    static void promise07_theLeastAndTheMost() {
        MemoryHouse x = new MemoryHouse();
        due("0 at first", x.dull(0, 0, 9), 0);
        due("9 then", x.dull(0, 0, 0), 9);
        due("0 again", x.dull(0, 0, 0), 0);
    }

    static void promise07_eachCardAndRoleByItself() {
        MemoryHouse x = new MemoryHouse();
        for (int k = 0; k < 156; k++) {
            due("at first", x.dull(k / 3, k % 3, k % 10), 0);
        }
        for (int k = 0; k < 156; k++) {
            due("card " + k / 3 + " as " + k % 3, x.dull(k / 3, k % 3, 0), k % 10);
        }
    }

    static void promise07_fromNowOn() {
        MemoryHouse x = Rooms.one(3, 1, 1);
        law(x, "add 10 * dull");
        due("at first", x.holds(0, 0, 2), 0);
        x.dull(2, 0, 9);
        due("also of a pack that is PUT", x.holds(0, 0, 2), 90);
        x.dull(2, 1, 1);
        due("another role is another", x.holds(0, 0, 2), 90);
    }

    // Promise 8

    static void promise08_soManyDoorsAreNone() {
        for (int doors : new int[] {0, 21, -1, LEAST, MOST}) {
            refused(Rooms::rich, ARG, x -> x.house(doors));
            refused(MemoryHouse::new, ARG, x -> x.house(doors));
        }
    }

    static void promise08_oneDoorAndTwenty() {
        MemoryHouse x = new MemoryHouse();
        due("a house of 1", x.house(1), 0);
        due("a door", x.count(1), 1);
        due("a house of 20", x.house(20), 1);
        due("21 doors", x.count(1), 21);
    }

    static void promise08_sixHouses() {
        MemoryHouse x = new MemoryHouse();
        for (int k = 0; k < 6; k++) {
            due("house " + k, x.house(20), k);
        }
        due("houses", x.count(0), 6);
        due("doors", x.count(1), 120);
    }

    static void promise08_aSeventhHouse() {
        refused(Rooms::full, UNSUP, x -> x.house(1));
        refused(Rooms::full, UNSUP, x -> x.house(20));
    }

    static void promise08_aSeventhHouseThatIsNoneIsNoneFirst() {
        refused(Rooms::full, ARG, x -> x.house(0));
        refused(Rooms::full, ARG, x -> x.house(21));
    }

    static void promise08_looksAtFirstGoRoundAtTen() {
        MemoryHouse x = new MemoryHouse();
        x.house(10);
        x.house(11);
        x.house(20);
        due("10 doors: no pair", x.unlike(1, true), 0);
        due("11 doors: the first and the last", x.unlike(2, true), 1);
        due("20 doors: ten pairs", x.unlike(4, true), 10);
        x.look(1, 10, 9);
        // doors 9 and 10 of house 1 now
        due("still a pair", x.unlike(2, true), 1);
        x.look(1, 0, 9);
        due("three of them", x.unlike(2, true), 3);
    }

    static void promise08_aHouseBehindAnImageHasNewLooks() {
        MemoryHouse x = new MemoryHouse();
        x.image();
        x.house(20);
        for (int door = 0; door < 20; door++) {
            x.look(0, door, 7);
        }
        x.back();
        due("house 0 again", x.house(20), 0);
        due("its looks are those at first", x.unlike(1, true), 10);
    }

    // Promise 9

    static void promise09_noSuchHouse() {
        for (int house : new int[] {-1, 3, 5, 6, LEAST, MOST}) {
            refused(Rooms::rich, OUT, x -> x.look(house, 0, 0));
        }
        refused(Rooms::full, OUT, x -> x.look(6, 0, 0));
    }

    static void promise09_noSuchDoor() {
        // house 1 has 5 doors, and others have more
        for (int door : new int[] {-1, 5, 11, 19, 20, LEAST, MOST}) {
            refused(Rooms::rich, OUT, x -> x.look(1, door, 0));
        }
        refused(Rooms::rich, OUT, x -> x.look(0, 12, 0));
        refused(Rooms::full, OUT, x -> x.look(5, 20, 0));
    }

    static void promise09_theLookIsNone() {
        for (int n : new int[] {-1, 10, LEAST, MOST}) {
            refusedByBoth(ARG, x -> x.look(0, 0, n));
        }
    }

    static void promise09_noSuchDoorIsToldFirst() {
        refused(Rooms::rich, OUT, x -> x.look(3, 0, 10));
        refused(Rooms::rich, OUT, x -> x.look(1, 5, -1));
    }

    static void promise09_theLeastAndTheMost() {
        MemoryHouse x = new MemoryHouse();
        x.house(3);
        x.look(0, 1, 0);
        due("look 0, as door 0", x.unlike(1, true), 1);
        x.look(0, 2, 9);
        x.look(0, 1, 9);
        due("look 9, as door 2", x.unlike(1, true), 1);
        due("two looks", x.unlike(1, false), 2);
    }

    static void promise09_theFirstAndTheLastDoorOfEachHouse() {
        MemoryHouse x = new MemoryHouse();
        x.house(1);
        x.house(20);
        x.house(2);
        x.look(0, 0, 5);
        x.look(1, 19, 5);
        x.look(2, 0, 5);
        x.look(2, 1, 5);
        // house 1: 5, 15 and 19 are alike; 9 has lost its like
        due("house 1", x.unlike(2, true), 9 - 1 + 3);
        due("houses 0 and 2", x.unlike(5, true), 3);
        due("all of them: 6 of look 5, 8 other pairs", x.unlike(7, true), 15 + 8);
    }

    static void promise09_alsoWherePacksArePut() {
        MemoryHouse x = Rooms.one(3, 1, 1);
        due("unlike", x.about(0, 0, 5), 0);
        x.look(0, 2, 0);
        due("alike", x.about(0, 0, 5), 1);
    }

    // Promise 10

    static void promise10_theStartIsNone() {
        for (int start : new int[] {-1, 52, LEAST, MOST}) {
            refusedByBoth(ARG, x -> x.pack(start, 1, 3));
        }
    }

    static void promise10_theStepIsNone() {
        for (int step : new int[] {0, 52, 53, -1, -51, 105, LEAST, MOST}) {
            refused(Rooms::rich, ARG, x -> x.pack(0, step, 3));
        }
    }

    static void promise10_stepsWithAFactorInCommonWith52() {
        for (int step = 1; step <= 51; step++) {
            int so = step;
            if (step % 2 == 0 || step % 13 == 0) {
                refused(Rooms::rich, ARG, x -> x.pack(0, so, 3));
            } else {
                MemoryHouse x = new MemoryHouse();
                due("step " + step, x.pack(0, step, 52), 0);
                long all = 0;
                for (int i = 0; i < 52; i++) {
                    all |= 1L << x.card(0, i);
                }
                due("each card once", all, (1L << 52) - 1);
            }
        }
    }

    static void promise10_soManyCardsAreNone() {
        for (int n : new int[] {2, 53, 0, -3, LEAST, MOST}) {
            refusedByBoth(ARG, x -> x.pack(0, 1, n));
        }
    }

    static void promise10_theLeastAndTheMost() {
        MemoryHouse x = new MemoryHouse();
        due("start 0, step 1, 3 cards", x.pack(0, 1, 3), 0);
        due("start 51, step 51, 52 cards", x.pack(51, 51, 52), 1);
        due("the last of 3", x.card(0, 2), 2);
        due("the last of 52", x.card(1, 51), 0);
    }

    static void promise10_eightPacks() {
        MemoryHouse x = new MemoryHouse();
        for (int k = 0; k < 8; k++) {
            due("pack " + k, x.pack(k, 1, 52), k);
        }
        due("packs", x.count(2), 8);
        due("none is put", x.count(3), 0);
    }

    static void promise10_aNinthPack() {
        refused(Rooms::full, UNSUP, x -> x.pack(0, 1, 3));
        refused(Rooms::full, UNSUP, x -> x.pack(51, 51, 52));
    }

    static void promise10_aNinthPackThatIsNoneIsNoneFirst() {
        refused(Rooms::full, ARG, x -> x.pack(0, 2, 3));
        refused(Rooms::full, ARG, x -> x.pack(0, 1, 53));
    }

    static void promise10_aPackBehindAnImageIsNotPut() {
        MemoryHouse x = new MemoryHouse();
        x.house(3);
        x.image();
        x.pack(0, 1, 3);
        x.put(0, 0, 0, 3, 1);
        x.say(0, 1, 7);
        x.back();
        due("pack 0 again", x.pack(5, 1, 4), 0);
        refused("it is not put", STATE, () -> x.kind(0, 0));
        x.put(0, 0, 0, 3, 1);
        due("nothing was said for it", x.about(0, 1, 7), NONE);
        due("all are blanks", x.kinds(0, 1), 4);
    }

    // Promise 11

    static void promise11_noSuchPack() {
        for (int pack : new int[] {-1, 4, 7, 8, LEAST, MOST}) {
            refused(Rooms::rich, OUT, x -> x.card(pack, 0));
        }
        refused(Rooms::full, OUT, x -> x.card(8, 0));
    }

    static void promise11_noSuchPlaceInThePack() {
        // pack 1 has 5 cards
        for (int i : new int[] {-1, 5, 51, 52, LEAST, MOST}) {
            refused(Rooms::rich, OUT, x -> x.card(1, i));
        }
        MemoryHouse x = new MemoryHouse();
        x.pack(0, 1, 52);
        refused("card 52 of 52", OUT, () -> x.card(0, 52));
    }

    static void promise11_cardsGoRoundAt52() {
        MemoryHouse x = new MemoryHouse();
        x.pack(50, 1, 4);
        x.pack(51, 51, 52);
        x.pack(1, 51, 3);
        x.pack(13, 3, 52);
        int[] want = {50, 51, 0, 1};
        for (int i = 0; i < 4; i++) {
            due("card " + i, x.card(0, i), want[i]);
        }
        for (int i = 0; i < 52; i++) {
            due("card " + i + " backwards", x.card(1, i), 51 - i);
            due("card " + i + " by threes", x.card(3, i), (13 + 3 * i) % 52);
        }
        due("over 0 backwards", x.card(2, 2), 51);
    }

    static void promise11_alsoOfAPackThatIsNotPut() {
        due("pack 2 is not put", Rooms.rich().card(2, 2), 12);
    }

    // Promise 12

    static void promise12_noSuchPack() {
        for (int pack : new int[] {-1, 4, 8, LEAST, MOST}) {
            refused(Rooms::rich, OUT, x -> x.put(pack, 0, 0, 3, 1));
        }
    }

    static void promise12_noSuchHouse() {
        for (int house : new int[] {-1, 3, 6, LEAST, MOST}) {
            refused(Rooms::rich, OUT, x -> x.put(2, house, 0, 3, 1));
        }
    }

    static void promise12_noSuchDoor() {
        for (int door : new int[] {-1, 5, 19, 20, LEAST, MOST}) {
            refused(Rooms::rich, OUT, x -> x.put(2, 1, door, 3, 1));
        }
    }

    static void promise12_aPackThatIsPut() {
        refused(Rooms::rich, STATE, x -> x.put(0, 2, 0, 3, 1));
        refused(Rooms::full, STATE, x -> x.put(7, 5, 0, 3, 1));
    }

    static void promise12_perIsNone() {
        for (int per : new int[] {0, 4, -1, LEAST, MOST}) {
            refused(Rooms::rich, ARG, x -> x.put(2, 2, 0, per, 1));
        }
    }

    static void promise12_secondsAreNone() {
        for (int seconds : new int[] {0, 61, -1, LEAST, MOST}) {
            refused(Rooms::rich, ARG, x -> x.put(2, 2, 0, 1, seconds));
        }
    }

    static void promise12_thereIsNoRoom() {
        // 3 cards in the house of 5 doors, and in that of 20
        refused(Rooms::rich, ARG, x -> x.put(2, 1, 3, 1, 1));
        refused(Rooms::rich, ARG, x -> x.put(2, 1, 4, 2, 1));
        refused(Rooms::rich, ARG, x -> x.put(2, 2, 18, 1, 1));
        refused(Rooms::rich, ARG, x -> x.put(2, 2, 19, 2, 1));
        refused(() -> notPut(21), ARG, x -> x.put(0, 0, 0, 1, 1));
        refused(() -> notPut(52), ARG, x -> x.put(0, 0, 0, 2, 1));
        refused(() -> notPut(52), ARG, x -> x.put(0, 0, 3, 3, 1));
    }

    static void promise12_roomToTheLastDoor() {
        due("3 of 5, from 2 on", Rooms.rich().put(2, 1, 2, 1, 1), 3);
        due("2 of 5, from 3 on", Rooms.rich().put(2, 1, 3, 2, 1), 2);
        due("1 of 5, from 4 on", Rooms.rich().put(2, 1, 4, 3, 1), 1);
        due("3 of 20, from 17 on", notPut(3).put(0, 0, 17, 1, 1), 3);
        due("1 of 20, from 19 on", notPut(3).put(0, 0, 19, 3, 1), 1);
        due("20 of 20", notPut(20).put(0, 0, 0, 1, 1), 20);
        due("20 of 20, two to each", notPut(40).put(0, 0, 0, 2, 1), 20);
        due("18 of 20, from 2 on", notPut(52).put(0, 0, 2, 3, 1), 18);
        MemoryHouse x = new MemoryHouse();
        x.house(1);
        x.pack(0, 1, 3);
        due("1 of 1", x.put(0, 0, 0, 3, 1), 1);
    }

    static void promise12_theClockWouldBePastItsMost() {
        for (int seconds : new int[] {1, 2, 60}) {
            refused(() -> {
                MemoryHouse x = notPut(3);
                x.later(CLOCK_MOST - 3 * seconds + 1);
                return x;
            }, ARG, x -> x.put(0, 0, 0, 1, seconds));
        }
        refused(() -> {
            MemoryHouse x = notPut(3);
            x.later(CLOCK_MOST);
            return x;
        }, ARG, x -> x.put(0, 0, 0, 3, 1));
    }

    static void promise12_theClockToItsMost() {
        for (int seconds : new int[] {1, 2, 60}) {
            MemoryHouse x = notPut(3);
            x.later(CLOCK_MOST - 3 * seconds);
            due("places", x.put(0, 0, 0, 1, seconds), 3);
            due("the clock", x.count(4), CLOCK_MOST);
        }
    }

    static void promise12_whichIsToldFirst() {
        refused(Rooms::rich, OUT, x -> x.put(0, 3, 0, 9, 99));
        refused(Rooms::rich, OUT, x -> x.put(0, 0, 12, 3, 1));
        refused(Rooms::rich, STATE, x -> x.put(0, 0, 0, 0, 1));
        refused(Rooms::rich, STATE, x -> x.put(0, 0, 0, 3, 61));
        refused(Rooms::rich, STATE, x -> x.put(0, 1, 4, 1, 1));
        refused(Rooms::full, STATE, x -> x.put(0, 0, 0, 3, 1));
    }

    static void promise12_aRefusedPackCanStillBePut() {
        MemoryHouse x = Rooms.rich();
        refused("no room", ARG, () -> x.put(2, 1, 4, 1, 1));
        due("then with room", x.put(2, 1, 4, 3, 1), 1);
        due("and it is put", x.count(3), 4);
        refused("once", STATE, () -> x.put(2, 1, 4, 3, 1));
    }

    static void promise12_howManyPlaces() {
        int[][] want = {{3, 2, 1}, {4, 2, 2}, {5, 3, 2}, {6, 3, 2}, {7, 4, 3}};
        for (int cards = 3; cards <= 7; cards++) {
            for (int per = 1; per <= 3; per++) {
                due(cards + " cards by " + per, notPut(cards).put(0, 0, 0, per, 1), want[cards - 3][per - 1]);
            }
        }
    }

    static void promise12_theClockGoesOnByAll() {
        MemoryHouse x = notPut(7);
        x.put(0, 0, 0, 3, 60);
        due("the clock", x.count(4), 180);
        // places are put at 0, 60, 120
        due("age of place 0", x.about(0, 2, 3), 18);
        due("age of place 1", x.about(0, 3, 3), 12);
        due("age of place 2", x.about(0, 6, 3), 6);
    }

    static void promise12_allEightInOneHouse() {
        MemoryHouse x = new MemoryHouse();
        x.house(1);
        for (int k = 0; k < 8; k++) {
            x.pack(k, 1, 3);
            due("pack " + k, x.put(k, 0, 0, 3, 1), 1);
            due("old", x.about(k, 0, 4), k);
        }
        due("put", x.count(3), 8);
    }

    // Promise 13

    static void promise13_secondsBelow0() {
        refusedByBoth(ARG, x -> x.later(-1));
        refusedByBoth(ARG, x -> x.later(LEAST));
    }

    static void promise13_pastItsMost() {
        refused(Rooms::full, ARG, x -> x.later(1));
        refused(Rooms::full, ARG, x -> x.later(MOST));
        refused(MemoryHouse::new, ARG, x -> x.later(CLOCK_MOST + 1));
        refused(MemoryHouse::new, ARG, x -> x.later(MOST));
        refused(Rooms::rich, ARG, x -> x.later(MOST));
        refused(Rooms::rich, ARG, x -> x.later(CLOCK_MOST));
    }

    static void promise13_toItsMost() {
        MemoryHouse x = new MemoryHouse();
        due("all at once", x.later(CLOCK_MOST), CLOCK_MOST);
        due("no more", x.later(0), CLOCK_MOST);
        MemoryHouse y = new MemoryHouse();
        y.later(1);
        refused("one too many", ARG, () -> y.later(CLOCK_MOST));
        due("the rest", y.later(CLOCK_MOST - 1), CLOCK_MOST);
        due("count", y.count(4), CLOCK_MOST);
    }

    static void promise13_noSeconds() {
        due("0 of a new one", new MemoryHouse().later(0), 0);
        leaves(Rooms::rich, x -> x.later(0));
    }

    // Promise 14

    static void promise14_noSuchPack() {
        for (int pack : new int[] {-1, 4, 8, LEAST, MOST}) {
            refused(Rooms::rich, OUT, x -> x.go(pack, 1));
        }
        refused(Rooms::full, OUT, x -> x.go(8, 1));
    }

    static void promise14_aPackThatIsNotPut() {
        refused(Rooms::rich, STATE, x -> x.go(2, 1));
    }

    static void promise14_secondsAreNone() {
        for (int seconds : new int[] {0, 61, -1, LEAST, MOST}) {
            refused(Rooms::rich, ARG, x -> x.go(0, seconds));
        }
    }

    static void promise14_whichIsToldFirst() {
        refused(Rooms::rich, OUT, x -> x.go(4, 0));
        refused(Rooms::rich, STATE, x -> x.go(2, 61));
        refused(Rooms::full, OUT, x -> x.go(8, 60));
    }

    private static MemoryHouse putAndLater(int rest) {
        MemoryHouse x = Rooms.one(5, 2, 1);
        x.later(CLOCK_MOST - 3 - rest);
        return x;
    }

    static void promise14_theClockWouldBePastItsMost() {
        refused(() -> putAndLater(0), ARG, x -> x.go(0, 1));
        refused(() -> putAndLater(2), ARG, x -> x.go(0, 1));
        refused(() -> putAndLater(179), ARG, x -> x.go(0, 60));
        refused(Rooms::full, ARG, x -> x.go(0, 1));
    }

    static void promise14_theClockToItsMost() {
        MemoryHouse x = putAndLater(3);
        due("gone once", x.go(0, 1), 1);
        due("the clock", x.count(4), CLOCK_MOST);
        MemoryHouse y = putAndLater(180);
        due("gone once", y.go(0, 60), 1);
        due("the clock", y.count(4), CLOCK_MOST);
    }

    static void promise14_howOften() {
        MemoryHouse x = Rooms.one(3, 3, 1);
        x.pack(0, 1, 3);
        x.put(1, 0, 0, 3, 1);
        for (int k = 1; k <= 400; k++) {
            due("gone " + k, x.go(0, 1), k);
        }
        due("the other one", x.go(1, 60), 1);
    }

    static void promise14_aRefusedGoIsNotCounted() {
        MemoryHouse x = Rooms.one(3, 3, 1);
        refused("no seconds", ARG, () -> x.go(0, 0));
        due("once", x.go(0, 1), 1);
    }

    static void promise14_touchedWhenThoseAheadAreOver() {
        MemoryHouse x = Rooms.one(5, 2, 60);
        x.go(0, 10);
        // from 180 on: at 180, 190, 200; the clock is 210
        due("place 0", x.about(0, 0, 3), 3);
        due("place 1", x.about(0, 2, 3), 2);
        due("place 2", x.about(0, 4, 3), 1);
        x.go(0, 9);
        // from 210 on: at 210, 219, 228; the clock is 237
        due("place 0 again", x.about(0, 0, 3), 2);
        due("place 1 again", x.about(0, 2, 3), 1);
        due("place 2 again", x.about(0, 4, 3), 0);
    }

    static void promise14_theSecondsOfPuttingStay() {
        MemoryHouse x = Rooms.one(3, 1, 7);
        law(x, "add 1 * seconds");
        x.go(0, 60);
        due("seconds", x.holds(0, 0, 0), 7);
    }

    // Promise 15

    static void promise15_noSuchPack() {
        for (int pack : new int[] {-1, 4, 8, LEAST, MOST}) {
            refused(Rooms::rich, OUT, x -> x.about(pack, 0, 0));
        }
    }

    static void promise15_noSuchPlaceInThePack() {
        for (int i : new int[] {-1, 8, 52, LEAST, MOST}) {
            refused(Rooms::rich, OUT, x -> x.about(0, i, 0));
        }
    }

    static void promise15_aPackThatIsNotPut() {
        for (int what = 0; what <= 7; what++) {
            int so = what;
            refused(Rooms::rich, STATE, x -> x.about(2, 0, so));
        }
    }

    static void promise15_anotherWhat() {
        for (int what : new int[] {-1, 8, LEAST, MOST}) {
            refused(Rooms::rich, NOSUCH, x -> x.about(0, 0, what));
        }
    }

    static void promise15_whichIsToldFirst() {
        refused(Rooms::rich, OUT, x -> x.about(4, 0, 8));
        refused(Rooms::rich, OUT, x -> x.about(2, 3, 8));
        refused(Rooms::rich, STATE, x -> x.about(2, 0, 8));
    }

    static void promise15_nothingIsChanged() {
        for (int what = 0; what <= 7; what++) {
            int so = what;
            leaves(Rooms::rich, x -> x.about(0, 7, so));
        }
    }

    static void promise15_placeDoorAndRoleToTheLastCard() {
        MemoryHouse x = notPut(8);
        x.put(0, 0, 17, 3, 1);
        int[][] want = {{0, 17, 0}, {0, 17, 1}, {0, 17, 2}, {1, 18, 0}, {1, 18, 1}, {1, 18, 2}, {2, 19, 0}, {2, 19, 1}};
        for (int i = 0; i < 8; i++) {
            for (int what = 0; what <= 2; what++) {
                due("card " + i + ", " + what, x.about(0, i, what), want[i][what]);
            }
        }
        MemoryHouse y = Rooms.one(20, 1, 1);
        due("the last place", y.about(0, 19, 0), 19);
        due("the last door", y.about(0, 19, 1), 19);
        due("a who alone", y.about(0, 19, 2), 0);
    }

    static void promise15_theAgeIsRoundedDown() {
        MemoryHouse x = Rooms.one(3, 3, 1);
        due("1 second", x.about(0, 0, 3), 0);
        x.later(8);
        due("9 seconds", x.about(0, 0, 3), 0);
        x.later(1);
        due("10 seconds", x.about(0, 0, 3), 1);
        x.later(9);
        due("19 seconds", x.about(0, 0, 3), 1);
        x.later(1);
        due("20 seconds", x.about(0, 0, 3), 2);
        x.later(CLOCK_MOST - 20);
        due("as old as can be", x.about(0, 0, 3), 100000);
    }

    static void promise15_oldAheadOfThisOneAlone() {
        MemoryHouse x = new MemoryHouse();
        x.house(20);
        x.house(20);
        for (int k = 0; k < 4; k++) {
            x.pack(0, 1, 3);
        }
        x.put(3, 0, 5, 1, 1);
        x.put(1, 0, 7, 1, 1);
        x.put(0, 1, 7, 1, 1);
        x.put(2, 0, 6, 1, 1);
        // pack 3 at doors 5 to 7, pack 1 at 7 to 9, pack 2 at 6 to 8
        due("the first one", x.about(3, 2, 4), 0);
        due("the last door of the first one", x.about(1, 0, 4), 1);
        due("behind it", x.about(1, 1, 4), 0);
        due("another house", x.about(0, 0, 4), 0);
        due("door 6: one", x.about(2, 0, 4), 1);
        due("door 7: two", x.about(2, 1, 4), 2);
        due("door 8: one", x.about(2, 2, 4), 1);
        x.go(3, 1);
        due("gone through is not put", x.about(3, 2, 4), 0);
    }

    static void promise15_likeOfOtherPlacesOfThePackAlone() {
        MemoryHouse x = notPut(11);
        x.pack(0, 1, 3);
        x.put(0, 0, 0, 1, 1);
        x.put(1, 0, 11, 1, 1);
        due("doors 0 and 10", x.about(0, 0, 5), 1);
        due("door 10 too", x.about(0, 10, 5), 1);
        due("door 1: door 11 is of another pack", x.about(0, 1, 5), 0);
        due("door 11", x.about(1, 0, 5), 0);
        for (int door = 0; door < 11; door++) {
            x.look(0, door, 3);
        }
        due("all are alike", x.about(0, 5, 5), 10);
        due("door 13 of the other pack", x.about(1, 2, 5), 0);
    }

    static void promise15_dullInItsRole() {
        MemoryHouse x = Rooms.one(5, 2, 1);
        x.dull(1, 0, 3);
        x.dull(1, 1, 9);
        x.dull(4, 0, 1);
        due("as a what", x.about(0, 1, 6), 9);
        due("as a who", x.about(0, 4, 6), 1);
        due("as at first", x.about(0, 3, 6), 0);
    }

    static void promise15_whatWasSaid() {
        MemoryHouse x = Rooms.one(5, 2, 1);
        due("nothing at first", x.about(0, 0, 7), NONE);
        x.say(0, 0, 0);
        due("card 0", x.about(0, 0, 7), 0);
        x.say(0, 0, 51);
        due("card 51", x.about(0, 0, 7), 51);
        x.say(0, 0, NONE);
        due("nothing again", x.about(0, 0, 7), NONE);
    }
}
