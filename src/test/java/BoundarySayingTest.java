import java.util.function.Consumer;

/** The boundary cases of promises 16 to 26, a test for each sentence: what holds, what is said, slips and guesses. */
public final class BoundarySayingTest extends Check {
    private static final int LEAST = Integer.MIN_VALUE;
    private static final int MOST = Integer.MAX_VALUE;
    private static final int[] NO_PACKS = {-1, 4, 8, LEAST, MOST};
    /** The rich room has laws 0 and 1, and rules 0 and 1. */
    private static final int[] NO_TEXTS = {-1, 2, 3, LEAST, MOST};
    /** Its pack 0 has 8 cards. */
    private static final int[] NO_PLACES = {-1, 8, 52, LEAST, MOST};

    public static void main(String[] args) {
        runByName(BoundarySayingTest.class, 16, 26);
        finish();
    }

    private static int held(MemoryHouse x, String text, int i) {
        return x.holds(law(x, text), 0, i);
    }

    /** Pack 0 of 3 cards at door 0, then pack 1 (20 and on) by twos at doors 0 to 2, the last like the first. */
    private static MemoryHouse slips() {
        MemoryHouse x = new MemoryHouse();
        x.house(20);
        x.pack(0, 1, 3);
        x.pack(20, 1, 6);
        x.look(0, 2, 0);
        x.put(0, 0, 0, 3, 1);
        x.put(1, 0, 0, 2, 1);
        return x;
    }

    // Promise 16

    static void promise16_noSuchLaw() {
        for (int law : NO_TEXTS) {
            refused(Rooms::rich, OUT, x -> x.holds(law, 0, 0));
        }
        refused(Rooms::full, OUT, x -> x.holds(3, 0, 0));
    }

    static void promise16_noSuchPack() {
        for (int pack : NO_PACKS) {
            refused(Rooms::rich, OUT, x -> x.holds(0, pack, 0));
        }
    }

    static void promise16_noSuchPlaceInThePack() {
        for (int i : NO_PLACES) {
            refused(Rooms::rich, OUT, x -> x.holds(0, 0, i));
        }
    }

    static void promise16_aPackThatIsNotPut() {
        refused(Rooms::rich, STATE, x -> x.holds(0, 2, 0));
        refused(Rooms::rich, OUT, x -> x.holds(0, 2, 3));
        refused(Rooms::rich, OUT, x -> x.holds(2, 2, 0));
    }

    static void promise16_0AtLeast() {
        MemoryHouse x = Rooms.one(3, 1, 1);
        due("1 less 1", held(x, "add 1;less 1", 0), 0);
        due("1 less 2", held(x, "add 1;less 2", 0), 0);
        due("less 999", held(x, "less 999", 0), 0);
        MemoryHouse y = Rooms.one(3, 1, 1);
        due("2 less 1", held(y, "add 2;less 1", 0), 1);
        y.later(1000000 - 3);
        due("as little as can be", held(y, "less 999 * age;".repeat(9) + "less 999 * age", 0), 0);
    }

    static void promise16_100AtMost() {
        MemoryHouse x = Rooms.one(3, 1, 1);
        due("99", held(x, "add 99", 0), 99);
        due("100", held(x, "add 100", 0), 100);
        due("101", held(x, "add 101", 0), 100);
        MemoryHouse y = Rooms.one(3, 1, 1);
        due("999 less 899", held(y, "add 999;less 899", 0), 100);
        due("999 less 900", held(y, "add 999;less 900", 0), 99);
        y.later(1000000 - 3);
        due("as much as can be", held(y, "add 999 * age;".repeat(9) + "add 999 * age", 0), 100);
    }

    static void promise16_onlyAllTogetherAreHeldTo0And100() {
        due("over 100 and back", held(Rooms.one(3, 1, 1), "add 150;less 100;add 10", 0), 60);
        due("below 0 and back", held(Rooms.one(3, 1, 1), "less 150;add 160", 0), 10);
    }

    static void promise16_firstAndLast() {
        MemoryHouse x = Rooms.one(4, 3, 1);
        law(x, "add 10 if first;add 1 if last");
        int[] want = {10, 10, 10, 1};
        for (int i = 0; i < 4; i++) {
            due("card " + i, x.holds(0, 0, i), want[i]);
        }
        MemoryHouse one = Rooms.one(3, 3, 1);
        due("one place is both", held(one, "add 10 if first;add 1 if last", 2), 11);
        MemoryHouse three = Rooms.one(3, 1, 1);
        due("the middle one is neither", held(three, "add 10 if first;add 1 if last", 1), 0);
    }

    static void promise16_secondsPerRoleAndGone() {
        MemoryHouse x = Rooms.one(5, 3, 60);
        law(x, "add 1 * seconds");
        law(x, "add 10 * per;add 1 * role");
        law(x, "add 7 * gone");
        due("60 seconds", x.holds(0, 0, 0), 60);
        due("a who", x.holds(1, 0, 0), 30);
        due("a whom", x.holds(1, 0, 2), 32);
        due("a what of the last place, of two", x.holds(1, 0, 4), 31);
        due("never gone", x.holds(2, 0, 0), 0);
        x.go(0, 1);
        due("gone once", x.holds(2, 0, 0), 7);
    }

    static void promise16_dullOldLikeAndAge() {
        MemoryHouse x = slips();
        law(x, "add 10 * old;add 5 * dull");
        law(x, "add 9 * like;add 1 * age");
        due("old at door 0", x.holds(0, 1, 0), 10);
        due("not old at door 1", x.holds(0, 1, 2), 0);
        x.dull(21, 1, 9);
        due("dull as a what", x.holds(0, 1, 1), 55);
        due("like of door 0", x.holds(1, 1, 0), 9);
        due("no like of door 1", x.holds(1, 1, 2), 0);
        x.later(6);
        // the clock is 10, and place 0 was put at 1
        due("9 seconds", x.holds(1, 1, 0), 9);
        x.later(1);
        due("10 seconds", x.holds(1, 1, 0), 10);
    }

    static void promise16_nothingIsChanged() {
        leaves(Rooms::rich, x -> x.holds(0, 0, 0));
    }

    // Promise 17

    static void promise17_noSuchLaw() {
        for (int law : NO_TEXTS) {
            refused(Rooms::rich, OUT, x -> x.awaited(law, 0));
        }
    }

    static void promise17_noSuchPack() {
        for (int pack : NO_PACKS) {
            refused(Rooms::rich, OUT, x -> x.awaited(0, pack));
        }
    }

    static void promise17_aPackThatIsNotPut() {
        refused(Rooms::rich, STATE, x -> x.awaited(0, 2));
        refused(Rooms::rich, OUT, x -> x.awaited(2, 2));
    }

    static void promise17_eachCardIsHeldTo0And100() {
        MemoryHouse x = Rooms.one(3, 1, 1);
        law(x, "add 50;add 200 if first;less 200 if last");
        due("100, 50 and 0", x.awaited(0, 0), 150);
    }

    static void promise17_theLeastAndTheMost() {
        MemoryHouse x = Rooms.one(52, 3, 1);
        law(x, "");
        law(x, "add 100");
        law(x, "add 999;less 1");
        due("0", x.awaited(0, 0), 0);
        due("5200", x.awaited(1, 0), 5200);
        due("no more", x.awaited(2, 0), 5200);
    }

    static void promise17_theCardsOfALastPlaceThatHasFewer() {
        MemoryHouse x = Rooms.one(7, 3, 1);
        law(x, "add 10 if last");
        law(x, "add 1;add 1 * role");
        due("one card", x.awaited(0, 0), 10);
        due("roles", x.awaited(1, 0), 6 + 6 + 1);
    }

    static void promise17_dullInEachRole() {
        MemoryHouse x = Rooms.one(5, 3, 1);
        law(x, "add 50;less 5 * dull");
        x.dull(1, 1, 4);
        x.dull(3, 0, 2);
        x.dull(3, 1, 9);
        x.dull(2, 2, 9);
        x.dull(0, 2, 7);
        // 1 is a what, 3 a who, 2 a whom, 0 no whom
        due("20, 10 and 45 less", x.awaited(0, 0), 250 - 75);
    }

    // Promise 18

    static void promise18_noSuchPack() {
        for (int pack : NO_PACKS) {
            refused(Rooms::rich, OUT, x -> x.say(pack, 0, 0));
        }
    }

    static void promise18_noSuchPlaceInThePack() {
        for (int i : NO_PLACES) {
            refused(Rooms::rich, OUT, x -> x.say(0, i, 0));
        }
    }

    static void promise18_noSuchCard() {
        for (int card : new int[] {-2, 52, LEAST, MOST}) {
            refused(Rooms::rich, OUT, x -> x.say(0, 0, card));
        }
    }

    static void promise18_aPackThatIsNotPut() {
        refused(Rooms::rich, STATE, x -> x.say(2, 0, 10));
        refused(Rooms::rich, STATE, x -> x.say(2, 0, NONE));
    }

    static void promise18_noSuchCardIsToldFirst() {
        refused(Rooms::rich, OUT, x -> x.say(2, 0, 52));
        refused(Rooms::rich, OUT, x -> x.say(2, 3, 0));
    }

    static void promise18_aBlank() {
        MemoryHouse x = Rooms.one(3, 1, 1);
        due("right", x.say(0, 0, 0), 0);
        due("a blank", x.say(0, 0, NONE), 1);
        due("nothing was said", x.about(0, 0, 7), NONE);
        due("none is right", x.count(9), 0);
    }

    static void promise18_theFirstAndTheLastCard() {
        MemoryHouse x = new MemoryHouse();
        x.house(1);
        x.pack(51, 1, 3);
        x.put(0, 0, 0, 3, 1);
        due("51 is right", x.say(0, 0, 51), 0);
        due("0 is right", x.say(0, 1, 0), 0);
        due("51 for the third: another", x.say(0, 2, 0), 6);
    }

    static void promise18_eachCardByItself() {
        MemoryHouse x = Rooms.one(52, 3, 1);
        for (int i = 0; i < 52; i++) {
            due("card " + i, x.say(0, i, i), 0);
            due("so many are right", x.count(9), i + 1);
        }
    }

    static void promise18_oneCardForSeveral() {
        MemoryHouse x = Rooms.one(3, 1, 1);
        due("right", x.say(0, 1, 1), 0);
        due("one place on", x.say(0, 0, 1), 5);
        due("one place back", x.say(0, 2, 1), 5);
        due("still right", x.kind(0, 1), 0);
    }

    // Promise 19 and the kinds of the terms

    static void promise19_noSuchPack() {
        for (int pack : NO_PACKS) {
            refused(Rooms::rich, OUT, x -> x.kind(pack, 0));
        }
    }

    static void promise19_noSuchPlaceInThePack() {
        for (int i : NO_PLACES) {
            refused(Rooms::rich, OUT, x -> x.kind(0, i));
        }
    }

    static void promise19_aPackThatIsNotPut() {
        refused(Rooms::rich, STATE, x -> x.kind(2, 0));
        refused(Rooms::rich, OUT, x -> x.kind(2, 3));
    }

    static void promise19_blankAtFirst() {
        MemoryHouse x = Rooms.one(52, 3, 1);
        for (int i = 0; i < 52; i++) {
            due("card " + i, x.kind(0, i), 1);
        }
    }

    /** A card is said for each, and each has the kind that is told, from all cards that may be said. */
    private static void kindsOf(MemoryHouse x, int pack, int i, int right, int[] slips) {
        for (int card = 0; card < 52; card++) {
            int want = card == right ? 0 : 6;
            for (int kind = 5; kind >= 2 && card != right; kind--) {
                want = slips[kind - 2] == card ? kind : want;
            }
            due("card " + card + " for " + i, x.say(pack, i, card), want);
            due("its kind", x.kind(pack, i), want);
        }
    }

    static void promise19_eachKind() {
        // door 0: who, what and whom of pack 0; place 2 is like place 0
        kindsOf(slips(), 1, 0, 20, new int[] {0, 24, 21, 22});
        kindsOf(slips(), 1, 1, 21, new int[] {1, 25, 20, 23});
        kindsOf(slips(), 1, 2, 22, new int[] {NONE, NONE, 23, 24});
        kindsOf(slips(), 1, 4, 24, new int[] {NONE, 20, 25, 22});
        kindsOf(slips(), 1, 5, 25, new int[] {NONE, 21, 24, 23});
        kindsOf(slips(), 0, 2, 2, new int[] {NONE, NONE, 0, NONE});
    }

    static void promise19_noGhostOfAPackBehind() {
        MemoryHouse x = slips();
        due("what pack 1 has there", x.say(0, 0, 20), 6);
        due("what pack 1 has there as a what", x.say(0, 1, 21), 6);
    }

    static void promise19_noGhostOfAPackThatIsNotPut() {
        MemoryHouse x = new MemoryHouse();
        x.house(20);
        for (int k = 0; k < 3; k++) {
            x.pack(20 * k, 1, 3);
        }
        x.image();
        x.put(2, 0, 0, 1, 1);
        x.back();
        x.put(0, 0, 5, 1, 1);
        x.put(1, 0, 0, 1, 1);
        due("pack 0 was put elsewhere, pack 2 no longer is", x.say(1, 0, 40), 6);
        due("pack 0", x.say(1, 0, 0), 6);
        due("not old", x.about(1, 0, 4), 0);
        MemoryHouse y = new MemoryHouse();
        y.house(20);
        y.pack(0, 1, 3);
        y.pack(20, 1, 3);
        y.pack(40, 1, 3);
        y.put(2, 0, 9, 1, 1);
        y.put(1, 0, 0, 1, 1);
        due("pack 0 was never put", y.say(1, 0, 0), 6);
        due("nor is it old", y.about(1, 0, 4), 0);
        due("pack 2 is at another door", y.say(1, 0, 40), 6);
        due("that is not old here", y.about(1, 2, 4), 0);
    }

    static void promise19_theGhostIsOfTheLatestPackWithTheRole() {
        MemoryHouse x = new MemoryHouse();
        x.house(20);
        x.house(20);
        for (int k = 0; k < 5; k++) {
            x.pack(10 * k, 1, 3);
        }
        x.put(4, 0, 7, 3, 1);
        x.put(3, 0, 7, 2, 1);
        x.put(2, 0, 7, 1, 1);
        x.put(1, 1, 7, 3, 1);
        x.put(0, 0, 7, 3, 1);
        // door 7: 40 41 42, then 30 31, then 20; in another house 10 11 12
        due("the latest who", x.say(0, 0, 20), 2);
        due("no earlier who", x.say(0, 0, 30), 6);
        due("the latest what", x.say(0, 1, 31), 2);
        due("no earlier what", x.say(0, 1, 41), 6);
        due("the only whom", x.say(0, 2, 42), 2);
        due("another house's", x.say(0, 2, 12), 6);
        due("of pack 3 the whom is not its own", x.say(3, 1, 41), 2);
        due("the second place of pack 3 is at door 8: nothing was there", x.say(3, 2, 40), 6);
        due("pack 2 at door 8: 32", x.say(2, 1, 32), 2);
    }

    static void promise19_theGhostOfALastPlaceThatHasFewer() {
        MemoryHouse x = new MemoryHouse();
        x.house(20);
        x.pack(0, 1, 5);
        x.pack(10, 1, 6);
        x.pack(20, 1, 6);
        x.put(1, 0, 0, 3, 1);
        x.put(0, 0, 0, 3, 1);
        x.put(2, 0, 0, 3, 1);
        // door 1: 13 14 15, then 3 4 without a whom
        due("the what of the later one", x.say(2, 4, 4), 2);
        due("the whom of the earlier one", x.say(2, 5, 15), 2);
    }

    static void promise19_likeTheFirstOtherPlaceThatHasTheRole() {
        MemoryHouse x = Rooms.one(8, 3, 1);
        for (int door = 0; door < 3; door++) {
            x.look(0, door, 4);
        }
        due("of place 0 it is place 1", x.say(0, 0, 3), 3);
        due("not place 2", x.say(0, 0, 6), 6);
        due("of place 1 it is place 0", x.say(0, 4, 1), 3);
        due("of place 2 it is place 0", x.say(0, 7, 1), 3);
        x.look(0, 1, 5);
        due("place 2 alone", x.say(0, 1, 7), 3);
        due("place 2 has no whom", x.say(0, 2, 6), 6);
        due("nor is a place like itself", x.say(0, 3, 0), 6);
    }

    static void promise19_swappedIfThereAreTwo() {
        MemoryHouse x = Rooms.one(7, 3, 1);
        due("the next one", x.say(0, 0, 1), 4);
        due("the next one again", x.say(0, 1, 2), 4);
        due("the first for the last", x.say(0, 2, 0), 4);
        due("not the one before", x.say(0, 1, 0), 6);
        due("one alone: the place before is a shift", x.say(0, 6, 3), 5);
        due("one alone: nothing to swap", x.say(0, 6, 4), 6);
        MemoryHouse two = Rooms.one(8, 3, 1);
        due("of two the other", two.say(0, 6, 7), 4);
        due("of two the first", two.say(0, 7, 6), 4);
        MemoryHouse one = Rooms.one(3, 1, 1);
        due("one to a place: a shift", one.say(0, 0, 1), 5);
    }

    static void promise19_shiftedOnOrBack() {
        MemoryHouse x = Rooms.one(8, 3, 1);
        due("on", x.say(0, 0, 3), 5);
        due("on to the last place", x.say(0, 3, 6), 5);
        due("not back if there is one on", x.say(0, 3, 0), 6);
        due("on has no whom: back", x.say(0, 5, 2), 5);
        due("from the last place back", x.say(0, 6, 3), 5);
        due("not two back", x.say(0, 6, 0), 6);
        MemoryHouse five = Rooms.one(5, 3, 1);
        due("no whom on, and no place back", five.say(0, 2, 3), 6);
        due("nor another", five.say(0, 2, 4), 6);
        MemoryHouse one = Rooms.one(3, 3, 1);
        due("one place alone", one.say(0, 1, 0), 6);
    }

    static void promise19_theFirstKindOfSeveral() {
        MemoryHouse x = new MemoryHouse();
        x.house(20);
        x.pack(1, 51, 3);
        x.pack(0, 1, 3);
        x.put(0, 0, 0, 1, 1);
        x.put(1, 0, 0, 1, 1);
        // 1 0 51, then 0 1 2: at door 0 card 1 is a ghost and one place on
        due("ghost ahead of shifted", x.say(1, 0, 1), 2);
        x.look(0, 1, 0);
        due("ghost ahead of like", x.say(1, 0, 1), 2);
        due("like ahead of shifted", x.say(0, 0, 0), 3);
        MemoryHouse y = new MemoryHouse();
        y.house(20);
        y.pack(1, 51, 3);
        y.pack(0, 1, 3);
        y.put(0, 0, 0, 3, 1);
        y.put(1, 0, 0, 3, 1);
        due("ghost ahead of swapped", y.say(1, 0, 1), 2);
        y.pack(0, 1, 3);
        y.put(2, 0, 0, 3, 1);
        due("right ahead of ghost", y.say(2, 0, 0), 0);
    }

    static void promise19_toTheLastDoorOfTheLastHouse() {
        MemoryHouse x = new MemoryHouse();
        for (int k = 0; k < 6; k++) {
            x.house(20);
        }
        x.pack(0, 1, 20);
        x.put(0, 5, 0, 1, 1);
        x.pack(30, 1, 3);
        x.put(1, 5, 19, 3, 1);
        due("door 9 is like door 19", x.say(0, 19, 9), 3);
        due("one place back", x.say(0, 19, 18), 5);
        due("none on", x.say(0, 19, 0), 6);
        x.look(5, 9, 0);
        due("no other is like door 19", x.say(0, 19, 9), 6);
        due("the ghost at door 19", x.say(1, 0, 19), 2);
        due("no ghost as a what", x.say(1, 1, 19), 6);
        due("like", x.about(0, 19, 5), 0);
        due("old", x.about(1, 0, 4), 1);
    }

    static void promise19_byTheLooksOfNow() {
        MemoryHouse x = Rooms.one(4, 1, 1);
        due("another", x.say(0, 0, 2), 6);
        x.look(0, 2, 0);
        due("like now", x.kind(0, 0), 3);
        x.look(0, 0, 1);
        due("another again", x.kind(0, 0), 6);
    }

    // Promise 20

    static void promise20_noSuchLaw() {
        for (int law : NO_TEXTS) {
            refused(Rooms::rich, OUT, x -> x.run(law, 0, 1));
        }
    }

    static void promise20_noSuchPack() {
        for (int pack : NO_PACKS) {
            refused(Rooms::rich, OUT, x -> x.run(0, pack, 1));
        }
    }

    static void promise20_aPackThatIsNotPut() {
        refused(Rooms::rich, STATE, x -> x.run(0, 2, 1));
        refused(Rooms::rich, OUT, x -> x.run(2, 2, 1));
    }

    private static int next(int seed) {
        return (int) (1103515245L * seed + 12345L);
    }

    private static int draw(int seed) {
        return (int) ((seed & 0xFFFFFFFFL) >> 16) & 0x7FFF;
    }

    static void promise20_rightIfTheDrawIsBelowHolds() {
        boolean[] met = new boolean[100];
        for (int seed = 0; seed < 2000; seed++) {
            int drawn = draw(next(seed)) % 100;
            if (!met[drawn]) {
                met[drawn] = true;
                MemoryHouse x = Rooms.one(3, 1, 1);
                law(x, "add " + drawn);
                law(x, "add " + (drawn + 1));
                x.run(0, 0, seed);
                due("draw " + drawn + " by as much", x.kind(0, 0) == 0, false);
                x.run(1, 0, seed);
                due("draw " + drawn + " by one more", x.kind(0, 0) == 0, true);
            }
        }
        for (int drawn = 0; drawn < 100; drawn++) {
            due("draw " + drawn + " came", met[drawn], true);
        }
    }

    static void promise20_slipsByTheirWeights() {
        int[] want = {0, 0, 0, 24, 24, 21, 21, 22, NONE, NONE, NONE};
        boolean[] met = new boolean[11];
        for (int seed = 0; seed < 400; seed++) {
            int rest = draw(next(next(seed))) % 11;
            if (!met[rest]) {
                met[rest] = true;
                MemoryHouse x = slips();
                law(x, "");
                x.run(0, 1, seed);
                due("rest " + rest + " of 11", x.about(1, 0, 7), want[rest]);
            }
        }
        for (int rest = 0; rest < 11; rest++) {
            due("rest " + rest + " came", met[rest], true);
        }
    }

    static void promise20_onlySlipsOfWhichThereIsOne() {
        int[][] want = {{1, NONE, NONE, NONE}, {1, 1, NONE, NONE, NONE}};
        for (int seed = 0; seed < 200; seed++) {
            int second = draw(next(next(seed)));
            MemoryHouse x = Rooms.one(3, 1, 1);
            law(x, "");
            x.run(0, 0, seed);
            due("a shift or a blank", x.about(0, 0, 7), want[0][second % 4]);
            MemoryHouse y = Rooms.one(3, 3, 1);
            law(y, "");
            y.run(0, 0, seed);
            due("swapped or a blank", y.about(0, 0, 7), want[1][second % 5]);
        }
    }

    /** Two to a place in two places: of each card who is swapped and shifted with it; weights 2, 1 and 3. */
    private static void checkRun(MemoryHouse x, int holds, int seed) {
        int[][] slips = {{1, 1, 2}, {0, 0, 3}, {3, 3, 0}, {2, 2, 1}};
        int got = x.run(0, 0, seed);
        int state = seed;
        int right = 0;
        for (int i = 0; i < 4; i++) {
            state = next(state);
            int want = i;
            if (draw(state) % 100 >= holds) {
                state = next(state);
                int rest = draw(state) % 6;
                want = rest < 3 ? slips[i][rest] : NONE;
            } else {
                right++;
            }
            due("seed " + seed + ", card " + i, x.about(0, i, 7), want);
        }
        due("how many are right", got, right);
    }

    static void promise20_seedsGoRound() {
        MemoryHouse x = Rooms.one(4, 2, 1);
        law(x, "add 50");
        int[] seeds = {0, 1, -1, LEAST, MOST, LEAST + 1, MOST - 1, 65535, 65536, -65536, 1 << 30, 0xABCD1234};
        for (int seed : seeds) {
            checkRun(x, 50, seed);
        }
    }

    static void promise20_allOrNone() {
        MemoryHouse x = Rooms.one(52, 3, 1);
        law(x, "add 100");
        law(x, "");
        due("all", x.run(0, 0, MOST), 52);
        due("in all", x.count(9), 52);
        due("none", x.run(1, 0, MOST), 0);
        due("none in all", x.count(9), 0);
    }

    static void promise20_whatWasSaidBeforeIsGone() {
        MemoryHouse x = Rooms.one(4, 2, 1);
        law(x, "add 50");
        for (int i = 0; i < 4; i++) {
            x.say(0, i, 51);
        }
        checkRun(x, 50, 77);
        checkRun(x, 50, 77);
    }

    static void promise20_otherPacksStay() {
        MemoryHouse x = slips();
        law(x, "add 100");
        x.say(0, 0, 9);
        x.run(0, 1, 3);
        due("pack 0", x.about(0, 0, 7), 9);
        due("pack 0, a blank", x.about(0, 1, 7), NONE);
    }

    // Promise 21

    static void promise21_noSuchLaw() {
        for (int law : NO_TEXTS) {
            refused(Rooms::rich, OUT, x -> x.odds(law, 0, 0, 0, false));
        }
    }

    static void promise21_noSuchPack() {
        for (int pack : NO_PACKS) {
            refused(Rooms::rich, OUT, x -> x.odds(0, pack, 0, 0, false));
        }
    }

    static void promise21_noSuchPlaceInThePack() {
        for (int i : NO_PLACES) {
            refused(Rooms::rich, OUT, x -> x.odds(0, 0, i, 0, true));
        }
    }

    static void promise21_aPackThatIsNotPut() {
        refused(Rooms::rich, STATE, x -> x.odds(0, 2, 0, 0, false));
        refused(Rooms::rich, STATE, x -> x.odds(0, 2, 0, 6, true));
        refused(Rooms::rich, OUT, x -> x.odds(0, 2, 3, 6, true));
    }

    static void promise21_theKindIsNone() {
        for (int kind : new int[] {-1, 6, LEAST, MOST}) {
            refused(Rooms::rich, ARG, x -> x.odds(0, 0, 0, kind, false));
            refused(Rooms::rich, ARG, x -> x.odds(0, 0, 0, kind, true));
        }
    }

    private static void oddsAre(MemoryHouse x, int i, int kind, int above, int below) {
        due("above of " + kind, x.odds(0, 1, i, kind, false), above);
        due("below of " + kind, x.odds(0, 1, i, kind, true), below);
    }

    private static MemoryHouse slipsBy(String text) {
        MemoryHouse x = slips();
        law(x, text);
        return x;
    }

    static void promise21_oddsOfARightOne() {
        int[][] want = {{0, 0, 1}, {1, 1, 100}, {50, 1, 2}, {37, 37, 100}, {99, 99, 100}, {100, 1, 1}, {101, 1, 1}};
        for (int[] w : want) {
            oddsAre(slipsBy("add " + w[0]), 0, 0, w[1], w[2]);
        }
    }

    static void promise21_withoutACommonPart() {
        MemoryHouse x = slipsBy("add 56");
        // 44 of 100, by 11: 12 of 100 and so on
        oddsAre(x, 0, 1, 3, 25);
        oddsAre(x, 0, 2, 3, 25);
        oddsAre(x, 0, 3, 2, 25);
        oddsAre(x, 0, 4, 2, 25);
        oddsAre(x, 0, 5, 1, 25);
        MemoryHouse y = slipsBy("add 99");
        oddsAre(y, 0, 1, 3, 1100);
        oddsAre(y, 0, 5, 1, 1100);
    }

    static void promise21_oneThatCannotBeIs0By1() {
        MemoryHouse x = slipsBy("add 50");
        // at door 1 there is neither a ghost nor one alike: 2, 1 and 3
        oddsAre(x, 2, 2, 0, 1);
        oddsAre(x, 2, 3, 0, 1);
        oddsAre(x, 2, 4, 1, 6);
        oddsAre(x, 2, 5, 1, 12);
        oddsAre(x, 2, 1, 1, 4);
    }

    static void promise21_nothingButRightIs0By1() {
        MemoryHouse x = slipsBy("add 100");
        for (int kind = 1; kind <= 5; kind++) {
            oddsAre(x, 0, kind, 0, 1);
        }
    }

    static void promise21_nothingRight() {
        MemoryHouse x = slipsBy("less 1");
        oddsAre(x, 0, 0, 0, 1);
        oddsAre(x, 0, 1, 3, 11);
        oddsAre(x, 0, 2, 3, 11);
        oddsAre(x, 0, 3, 2, 11);
        oddsAre(x, 0, 4, 2, 11);
        oddsAre(x, 0, 5, 1, 11);
    }

    static void promise21_nothingIsChanged() {
        leaves(Rooms::rich, x -> x.odds(0, 0, 7, 5, true));
    }

    // Promise 22

    static void promise22_noSuchPack() {
        for (int pack : NO_PACKS) {
            refused(Rooms::rich, OUT, x -> x.kinds(pack, 0));
        }
    }

    static void promise22_aPackThatIsNotPut() {
        refused(Rooms::rich, STATE, x -> x.kinds(2, 0));
    }

    static void promise22_theKindIsNone() {
        for (int kind : new int[] {-1, 7, LEAST, MOST}) {
            refused(Rooms::rich, ARG, x -> x.kinds(0, kind));
        }
    }

    static void promise22_whichIsToldFirst() {
        refused(Rooms::rich, OUT, x -> x.kinds(4, 7));
        refused(Rooms::rich, STATE, x -> x.kinds(2, 7));
    }

    static void promise22_allBlankAndAllRight() {
        MemoryHouse x = Rooms.one(52, 3, 1);
        law(x, "add 100");
        for (int kind = 0; kind <= 6; kind++) {
            due("kind " + kind + " at first", x.kinds(0, kind), kind == 1 ? 52 : 0);
        }
        x.run(0, 0, 1);
        for (int kind = 0; kind <= 6; kind++) {
            due("kind " + kind + " then", x.kinds(0, kind), kind == 0 ? 52 : 0);
        }
    }

    static void promise22_oneOfEachKind() {
        MemoryHouse x = new MemoryHouse();
        x.house(20);
        x.pack(0, 1, 3);
        x.pack(20, 1, 7);
        x.look(0, 2, 0);
        x.put(0, 0, 0, 3, 1);
        x.put(1, 0, 0, 2, 1);
        // right, ghost, blank, swapped, like, other, shifted
        int[] said = {20, 1, NONE, 22, 20, 51, 24};
        for (int i = 0; i < 7; i++) {
            x.say(1, i, said[i]);
        }
        for (int kind = 0; kind <= 6; kind++) {
            due("kind " + kind, x.kinds(1, kind), 1);
        }
    }

    // Promise 23

    static void promise23_noSuchRule() {
        for (int rule : NO_TEXTS) {
            refused(Rooms::rich, OUT, x -> x.score(rule, 0));
        }
        refused(Rooms::full, OUT, x -> x.score(3, 0));
    }

    static void promise23_noSuchPack() {
        for (int pack : NO_PACKS) {
            refused(Rooms::rich, OUT, x -> x.score(0, pack));
        }
    }

    static void promise23_aPackThatIsNotPut() {
        refused(Rooms::rich, STATE, x -> x.score(0, 2));
        refused(Rooms::rich, OUT, x -> x.score(2, 2));
    }

    static void promise23_aScoreHasNoLeastAndNoMost() {
        MemoryHouse x = Rooms.one(52, 3, 1);
        rule(x, "add 999 * cards;".repeat(9) + "add 999 * cards");
        rule(x, "less 999 * blank;".repeat(9) + "less 999 * blank");
        rule(x, "");
        due("the most", x.score(0, 0), 519480);
        due("the least", x.score(1, 0), -519480);
        due("nothing", x.score(2, 0), 0);
    }

    static void promise23_wholeAtTheLastCard() {
        MemoryHouse x = Rooms.one(3, 1, 1);
        rule(x, "add 500 if whole;add 1 * right");
        x.say(0, 0, 0);
        x.say(0, 1, 1);
        due("two of three", x.score(0, 0), 2);
        x.say(0, 2, 2);
        due("whole", x.score(0, 0), 503);
        x.say(0, 2, 1);
        due("one wrong", x.score(0, 0), 2);
    }

    // Promise 24

    static void promise24_noSuchPack() {
        for (int pack : NO_PACKS) {
            refused(Rooms::rich, OUT, x -> x.fits(pack, 0));
        }
    }

    static void promise24_aPackThatIsNotPut() {
        refused(Rooms::rich, STATE, x -> x.fits(2, 0));
    }

    static void promise24_theNumberIsNone() {
        for (int off : new int[] {-1, 5201, LEAST, MOST}) {
            refused(Rooms::rich, ARG, x -> x.fits(0, off));
        }
    }

    static void promise24_whichIsToldFirst() {
        refused(Rooms::rich, OUT, x -> x.fits(4, -1));
        refused(Rooms::rich, STATE, x -> x.fits(2, 5201));
    }

    static void promise24_noLaws() {
        MemoryHouse x = Rooms.one(3, 1, 1);
        due("none at 0", x.fits(0, 0), 0);
        due("none at 5200", x.fits(0, 5200), 0);
    }

    static void promise24_offByAsMuch() {
        MemoryHouse x = Rooms.one(3, 1, 1);
        law(x, "add 40");
        law(x, "add 30");
        law(x, "add 20");
        x.say(0, 0, 0);
        // 120, 90 and 60; 100 is right
        int[][] want = {{0, 0}, {9, 0}, {10, 2}, {19, 2}, {20, 3}, {39, 3}, {40, 7}, {5200, 7}};
        for (int[] w : want) {
            due("off by " + w[0], x.fits(0, w[0]), w[1]);
        }
    }

    static void promise24_exactly() {
        MemoryHouse x = Rooms.one(3, 1, 1);
        law(x, "");
        law(x, "add 100 if first");
        law(x, "add 100");
        due("none right", x.fits(0, 0), 1);
        x.say(0, 2, 2);
        due("one right", x.fits(0, 0), 2);
        x.say(0, 0, 0);
        x.say(0, 1, 1);
        due("all right", x.fits(0, 0), 4);
    }

    static void promise24_asFarOffAsCanBe() {
        MemoryHouse x = Rooms.one(52, 3, 1);
        law(x, "add 100");
        due("off by 5199", x.fits(0, 5199), 0);
        due("off by 5200", x.fits(0, 5200), 1);
    }

    // Promise 25

    static void promise25_noSuchPack() {
        for (int pack : NO_PACKS) {
            refused(Rooms::rich, OUT, x -> x.lacks(pack, 0));
        }
    }

    static void promise25_aPackThatIsNotPut() {
        refused(Rooms::rich, STATE, x -> x.lacks(2, 0));
        refused(Rooms::rich, STATE, x -> x.lacks(2, NONE));
    }

    static void promise25_iIsBelowNone() {
        for (int i : new int[] {-2, -3, LEAST}) {
            refused(Rooms::rich, ARG, x -> x.lacks(0, i));
        }
    }

    static void promise25_whichIsToldFirst() {
        refused(Rooms::rich, OUT, x -> x.lacks(4, -2));
        refused(Rooms::rich, STATE, x -> x.lacks(2, -2));
    }

    static void promise25_noneWithout() {
        MemoryHouse x = Rooms.one(52, 3, 1);
        due("all", x.lacks(0, NONE), 52);
        due("the last one", x.lacks(0, 51), 51);
        due("one too many", x.lacks(0, 52), NONE);
        due("far too many", x.lacks(0, MOST), NONE);
    }

    static void promise25_nothingLacks() {
        MemoryHouse x = Rooms.one(3, 1, 1);
        x.say(0, 0, 2);
        x.say(0, 1, 0);
        x.say(0, 2, 1);
        due("none, though none is right", x.lacks(0, NONE), 0);
        due("no first one", x.lacks(0, 0), NONE);
    }

    static void promise25_byTheirPlaceInThePack() {
        MemoryHouse x = new MemoryHouse();
        x.house(20);
        x.pack(51, 51, 4);
        x.pack(0, 1, 52);
        x.put(0, 0, 0, 1, 1);
        x.put(1, 0, 0, 3, 1);
        // 51 50 49 48
        x.say(0, 3, 50);
        x.say(1, 0, 49);
        due("three", x.lacks(0, NONE), 3);
        due("51", x.lacks(0, 0), 51);
        due("49, that was said in another pack", x.lacks(0, 1), 49);
        due("48", x.lacks(0, 2), 48);
        due("no more", x.lacks(0, 3), NONE);
    }

    static void promise25_cardsOfOthersCountForNothing() {
        MemoryHouse x = Rooms.one(3, 1, 1);
        x.say(0, 0, 51);
        x.say(0, 1, 50);
        due("all lack", x.lacks(0, NONE), 3);
        x.say(0, 0, 2);
        x.say(0, 1, 2);
        due("one card said twice", x.lacks(0, NONE), 2);
    }

    // Promise 26

    static void promise26_noSuchRule() {
        for (int rule : NO_TEXTS) {
            refused(Rooms::rich, OUT, x -> x.guess(rule, 0, 0));
        }
    }

    static void promise26_noSuchPack() {
        for (int pack : NO_PACKS) {
            refused(Rooms::rich, OUT, x -> x.guess(0, pack, 0));
        }
    }

    static void promise26_aPackThatIsNotPut() {
        refused(Rooms::rich, STATE, x -> x.guess(0, 2, 0));
    }

    static void promise26_anotherWhat() {
        for (int what : new int[] {-1, 3, LEAST, MOST}) {
            refused(Rooms::rich, NOSUCH, x -> x.guess(0, 0, what));
        }
    }

    static void promise26_whichIsToldFirst() {
        refused(Rooms::rich, OUT, x -> x.guess(2, 2, 3));
        refused(Rooms::rich, STATE, x -> x.guess(0, 2, 3));
    }

    private static void guessIs(MemoryHouse x, String text, int guesses, int above, int below) {
        int rule = rule(x, text);
        due("G", x.guess(rule, 0, 0), guesses);
        due("above", x.guess(rule, 0, 1), above);
        due("below", x.guess(rule, 0, 2), below);
    }

    private static MemoryHouse said(int cards, int... said) {
        MemoryHouse x = Rooms.one(cards, 3, 1);
        for (int i = 0; i < said.length; i++) {
            x.say(0, i, said[i]);
        }
        return x;
    }

    static void promise26_noBlanks() {
        guessIs(said(3, 0, 1, 2), "add 7 * right", 0, 21, 1);
        guessIs(said(3, 50, 50, 50), "add 7 * wrong;add 100 * right", 0, 21, 1);
    }

    static void promise26_noMoreThanThereAreBlanks() {
        // a wrong one is worth it, and all are wrong: but one blank alone is left
        guessIs(said(4, 50, 50, 50), "add 1 * wrong", 1, 15, 4);
        guessIs(said(3, 0, 1), "add 1 * wrong;add 2 * right", 1, 6, 1);
    }

    static void promise26_fiveAtMost() {
        guessIs(said(5), "add 1 * wrong", 5, 4, 1);
        guessIs(said(6), "add 1 * wrong", 5, 25, 6);
        guessIs(said(52), "add 1 * wrong", 5, 25, 6);
    }

    static void promise26_ofTheFirstSixThatItLacks() {
        guessIs(said(6), "add 6 * right", 5, 5, 1);
        guessIs(said(7), "add 6 * right", 5, 5, 1);
        // the first two were said, so the last blanks that are guessed have their cards among the first six
        guessIs(said(9, 0, 1), "add 6 * right", 5, 17, 1);
    }

    static void promise26_aCardBehindTheFirstSix() {
        // blanks are 6, 7, 8; the six that are guessed of are 0 to 5
        guessIs(said(9, 50, 50, 50, 50, 50, 50), "add 6 * right", 0, 0, 1);
        guessIs(said(9, 50, 50, 50, 50, 50, 50), "add 1 * wrong", 3, 9, 1);
        // blanks are 5 and 6: the one is among them, the other is not
        guessIs(said(7, 50, 50, 50, 50, 50), "add 6 * right", 1, 1, 1);
    }

    static void promise26_theFirstOfTheBlanks() {
        // blanks are 0 and 8; by one guess it is 0 that gets it
        guessIs(said(9, NONE, 50, 50, 50, 50, 50, 50, 50), "add 6 * right", 1, 1, 1);
    }

    static void promise26_ofSeveralTheLeast() {
        guessIs(said(3), "", 0, 0, 1);
        guessIs(said(5), "add 5", 0, 5, 1);
        // each guess of three is right by a third
        guessIs(said(3), "add 2 * right;less 1 * wrong", 0, 0, 1);
    }

    static void promise26_allWaysAlike() {
        // three of three: one way of six is whole
        guessIs(said(3), "add 600 if whole", 3, 100, 1);
        // five of six cards: one way of 720 has all five right
        guessIs(said(6), "add 720 if right > 4", 5, 1, 1);
        // none right: 44 of the 120 ways of five
        guessIs(said(5), "add 120 if right + blank < 1", 5, 44, 1);
    }

    static void promise26_aFractionBelow0() {
        guessIs(said(4, 50), "less 1 * wrong;less 5 * blank", 3, -13, 4);
        guessIs(said(3), "less 9", 0, -9, 1);
    }

    static void promise26_withoutACommonPart() {
        // two blanks, two cards: both right or both wrong
        guessIs(said(4, 0, 1), "add 3 * right", 2, 9, 1);
        guessIs(said(4, 50), "add 1 * right", 3, 3, 4);
        guessIs(said(4, 50, 50), "add 2 * right", 2, 1, 1);
        guessIs(said(5, 50, 50, 50, 50), "add 1 * right", 1, 1, 5);
    }

    static void promise26_theMostCanStandBetween() {
        // one right one is worth something, more are not: a first guess is right by a fourth, a second one spoils it
        guessIs(said(4), "add 12 * right;less 2 * wrong;less 100 if blank < 3", 1, 3, 2);
    }

    static void promise26_nothingIsChanged() {
        Consumer<MemoryHouse> ask = x -> x.guess(0, 0, 0);
        leaves(Rooms::rich, ask);
    }
}
