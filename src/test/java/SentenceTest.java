/**
 * Promises 1 to 43 once more, where what is asked for is one of several: no law, pack, house, place or role has the
 * number of another one, so that each answer can only be that of what was asked for. All is reckoned by hand.
 */
public final class SentenceTest extends Check {
    public static void main(String[] args) {
        runByName(SentenceTest.class, 1, 43);
        finish();
    }

    private static final String FADING =
            "add 50;less 1 * age;less 3 * dull;less 10 * old;add 4 * like;add 20 * gone";
    private static final String LAYING = "add 1 * seconds;add 9 * per;add 3 * role;add 40 if first;less 5 if last";

    /**
     * Houses of 12, 20 and 7 doors; doors 5 and 9 of house 1 look like its door 3. Packs 0 (10 13 16 19) and 4 (0 1 2)
     * are not put. In house 1, by these doors:
     * <pre>
     * pack 3, the first, 5 seconds   4: 51 50     5: 49 48     6: 47
     * pack 2, then, 10 seconds       3: 3 8 13    4: 18 23 28  5: 33
     * pack 1, the last, 2 seconds    5: 40  6: 41  7: 42  8: 43  9: 44  10: 45
     * </pre>
     * Put at 0 5 10, at 15 25 35 and at 45 47 49 51 53 55; pack 3 is touched again at 57 63 69; the clock is 100.
     */
    private static MemoryHouse laid() {
        MemoryHouse x = new MemoryHouse();
        x.house(12);
        x.house(20);
        x.house(7);
        x.look(1, 5, 3);
        x.look(1, 9, 3);
        x.pack(10, 3, 4);
        x.pack(40, 1, 6);
        x.pack(3, 5, 7);
        x.pack(51, 51, 5);
        x.pack(0, 1, 3);
        x.put(3, 1, 4, 2, 5);
        x.put(2, 1, 3, 3, 10);
        x.put(1, 1, 5, 1, 2);
        x.go(3, 6);
        x.later(25);
        x.dull(41, 0, 4);
        x.dull(8, 1, 2);
        x.dull(13, 2, 3);
        x.dull(23, 1, 5);
        x.dull(49, 0, 6);
        x.dull(48, 1, 1);
        x.dull(50, 0, 9);
        return x;
    }

    /** As laid(), with three laws and three rules. */
    private static MemoryHouse many() {
        MemoryHouse x = laid();
        law(x, "add 7");
        law(x, FADING);
        law(x, LAYING);
        rule(x, "add 3 * right");
        rule(x, "add 10 * right;less 1 * wrong;add 2 * blank;add 1 * cards");
        rule(x, "add 5 if whole;add 1 * blank");
        return x;
    }

    /** Two packs of three cards each, 0 on and 20 on, by threes at the only door of house 0. */
    private static MemoryHouse oneOnTheOther() {
        MemoryHouse x = new MemoryHouse();
        x.house(1);
        x.pack(0, 1, 3);
        x.pack(20, 1, 3);
        x.put(0, 0, 0, 3, 1);
        x.put(1, 0, 0, 3, 1);
        return x;
    }

    private static final int[][] FADED = {{}, {29, 23, 45, 46, 50, 46}, {46, 40, 37, 33, 18, 33, 38},
        {66, 66, 49, 64, 67}};
    private static final int[][] LAID = {{}, {51, 11, 11, 11, 11, 6}, {77, 80, 83, 37, 40, 43, 32},
        {63, 66, 23, 26, 18}};
    /** GHOST, LIKE, SWAPPED and SHIFTED of each card of packs 1, 2 and 3. */
    private static final int[][][] SLIPS = {{},
        {{33, 44, NONE, 41}, {47, NONE, NONE, 42}, {NONE, NONE, NONE, 43}, {NONE, NONE, NONE, 44},
            {NONE, 40, NONE, 45}, {NONE, NONE, NONE, 44}},
        {{NONE, 33, 8, 18}, {NONE, NONE, 13, 23}, {NONE, NONE, 3, 28}, {51, NONE, 23, 33}, {50, NONE, 28, 8},
            {NONE, NONE, 18, 13}, {49, 3, NONE, 18}},
        {{NONE, NONE, 50, 49}, {NONE, NONE, 51, 48}, {NONE, NONE, 48, 47}, {NONE, NONE, 49, 50},
            {NONE, NONE, NONE, 49}}};

    private static void holdAsMuch(MemoryHouse x, int law, int[][] want) {
        for (int pack = 1; pack <= 3; pack++) {
            int sum = 0;
            for (int i = 0; i < want[pack].length; i++) {
                due("card " + i + " of pack " + pack + " by " + law, x.holds(law, pack, i), want[pack][i]);
                sum += want[pack][i];
            }
            due("pack " + pack + " by " + law, x.awaited(law, pack), sum);
        }
    }

    // Promises 1 to 6

    static void promise01_itsFirstOfEachIs0() {
        MemoryHouse x = new MemoryHouse();
        due("the first house", x.house(4), 0);
        due("the first pack", x.pack(0, 1, 3), 0);
        due("the first law", x.law(), 0);
        due("the first rule", x.rule(), 0);
        due("the first week", x.week(5), 1);
        due("the first moment", x.moment(5), 1);
        due("the clock", x.later(0), 0);
    }

    static void promise02_eachOfTheFiveNumbers() {
        String text = "add 0;add 1 if 1 < 2";
        int[] begins = {0, 0, 0, 3, 4, 5, 6, 6, 6, 9, 10, 11, 12, 12, 14, 15, 16, 17, 18, 19};
        for (int at = 0; at < 20; at++) {
            MemoryHouse x = new MemoryHouse();
            StringBuilder wrong = new StringBuilder(text);
            wrong.setCharAt(at, '!');
            feed(x, wrong.toString());
            refused("a ! at " + at, ARG, x::law);
            due("where it is", x.fault(), begins[at]);
            feed(x, text);
            due("none", x.law(), 0);
        }
    }

    static void promise03_onlyTheFirstBytesCount() {
        MemoryHouse x = Rooms.one(3, 1, 1);
        feed(x, "add 456;this is no law at all");
        due("end", x.end(5), true);
        due("4", x.holds(x.law(), 0, 0), 4);
        feed(x, "add 456;this is no law at all");
        due("end", x.end(6), true);
        due("45", x.holds(x.law(), 0, 0), 45);
    }

    static void promise04_eachLawByItself() {
        MemoryHouse x = many();
        for (int pack = 1; pack <= 3; pack++) {
            due("7 each", x.awaited(0, pack), 7 * FADED[pack].length);
        }
        holdAsMuch(x, 1, FADED);
        holdAsMuch(x, 2, LAID);
    }

    static void promise05_eachRuleByItself() {
        MemoryHouse x = many();
        x.say(2, 0, 3);
        x.say(2, 1, 8);
        x.say(2, 2, 51);
        due("rule 0", x.score(0, 2), 6);
        due("rule 1", x.score(1, 2), 34);
        due("rule 2", x.score(2, 2), 4);
    }

    static void promise06_ofALawAndOfARule() {
        MemoryHouse x = many();
        write(x, "add 3 if last < 4");
        refused("a tag is no part", ARG, x::law);
        due("of the law", x.fault(), 14);
        write(x, "add 3 if right < 4 or gone < 2");
        refused("no fact of a rule", ARG, x::rule);
        due("of the rule", x.fault(), 22);
        write(x, "less 3 if first");
        refused("there are three", UNSUP, x::law);
        due("the latest text is right", x.fault(), NONE);
    }

    // What there may be so many of: houses (0), packs (2), laws (5), rules (6), weeks (7) and moments (8)

    private static final int[] KINDS = {0, 2, 5, 6, 7, 8};
    private static final int[] MOSTS = {6, 0, 8, 0, 0, 3, 3, 20, 6};

    private static int addOne(MemoryHouse x, int kind) {
        switch (kind) {
            case 0:
                return x.house(20);
            case 2:
                return x.pack(0, 1, 3);
            case 5:
                return law(x, "add 1");
            case 6:
                return rule(x, "add 1");
            case 7:
                return x.week(9);
            default:
                return x.moment(9 + x.count(8));
        }
    }

    /** As many of a kind as there may be, and none of any other. */
    private static MemoryHouse full(int kind) {
        MemoryHouse x = new MemoryHouse();
        for (int k = 0; k < MOSTS[kind]; k++) {
            addOne(x, kind);
        }
        return x;
    }

    /** As many of all kinds as there may be, each pack put, but for one of a kind. */
    private static MemoryHouse fullBut(int kind) {
        MemoryHouse x = new MemoryHouse();
        for (int which : KINDS) {
            for (int k = 0; k < MOSTS[which] - (which == kind ? 1 : 0); k++) {
                addOne(x, which);
            }
        }
        for (int pack = 0; pack < x.count(2); pack++) {
            x.put(pack, 0, 0, 1, 1);
        }
        return x;
    }

    private static void onlyOnesOwnNumberCounts(int kind) {
        refused(() -> full(kind), UNSUP, x -> addOne(x, kind));
        MemoryHouse x = fullBut(kind);
        int most = MOSTS[kind];
        due("the last one", addOne(x, kind), kind < 7 ? most - 1 : most);
        due("how many", x.count(kind), most);
        refused(() -> {
            MemoryHouse y = fullBut(kind);
            addOne(y, kind);
            return y;
        }, UNSUP, y -> addOne(y, kind));
    }

    static void promise04_threeLawsWhateverElseThereIs() {
        onlyOnesOwnNumberCounts(5);
    }

    static void promise05_threeRulesWhateverElseThereIs() {
        onlyOnesOwnNumberCounts(6);
    }

    static void promise08_sixHousesWhateverElseThereIs() {
        onlyOnesOwnNumberCounts(0);
    }

    static void promise10_eightPacksWhateverElseThereIs() {
        onlyOnesOwnNumberCounts(2);
    }

    static void promise27_sixMomentsWhateverElseThereIs() {
        onlyOnesOwnNumberCounts(8);
    }

    static void promise37_twentyWeeksWhateverElseThereIs() {
        onlyOnesOwnNumberCounts(7);
    }

    // Promises 7 to 15

    static void promise07_eachRoleOfACardThatIsPut() {
        MemoryHouse x = many();
        due("49 as a who", x.dull(49, 0, 2), 6);
        due("49 as a what", x.dull(49, 1, 8), 0);
        due("only its role counts", x.holds(1, 3, 2), 49 + 12);
        due("as the table has it now", x.about(3, 2, 6), 2);
        due("what it was", x.dull(49, 0, 0), 2);
    }

    static void promise08_eachHouseHasItsDoors() {
        MemoryHouse x = many();
        due("a fourth", x.house(9), 3);
        due("door 8 of it", x.put(4, 3, 7, 2, 1), 2);
        refused("no door 9", OUT, () -> x.put(4, 3, 9, 3, 1));
        due("doors 10 and 11 of house 0", x.put(0, 0, 10, 3, 1), 2);
        due("doors in all", x.count(1), 12 + 20 + 7 + 9);
    }

    static void promise09_ofOneDoorOfOneHouse() {
        MemoryHouse x = many();
        // in house 1: four doors of look 3, one of 5 and one of 9, two of each other one
        due("pairs of house 1", x.unlike(2, true), 6 + 7);
        due("pairs of house 0", x.unlike(1, true), 2);
        x.look(2, 5, 4);
        due("a pair of house 2", x.unlike(4, true), 1);
        due("none more of house 1", x.unlike(2, true), 13);
        due("none more of house 0", x.unlike(1, true), 2);
    }

    static void promise10_startStepAndNumberOfEach() {
        MemoryHouse x = new MemoryHouse();
        due("0", x.pack(7, 9, 5), 0);
        due("1", x.pack(50, 3, 4), 1);
        due("the last of 0", x.card(0, 4), 43);
        due("the last of 1", x.card(1, 3), 7);
        refused("0 has five", OUT, () -> x.card(0, 5));
        refused("1 has four", OUT, () -> x.card(1, 4));
    }

    static void promise11_cardsOfEachPack() {
        MemoryHouse x = many();
        int[][] want = {{10, 13, 16, 19}, {40, 41, 42, 43, 44, 45}, {3, 8, 13, 18, 23, 28, 33},
            {51, 50, 49, 48, 47}, {0, 1, 2}};
        for (int pack = 0; pack < 5; pack++) {
            for (int i = 0; i < want[pack].length; i++) {
                due("card " + i + " of pack " + pack, x.card(pack, i), want[pack][i]);
            }
        }
    }

    static void promise12_whereItIsPut() {
        MemoryHouse x = many();
        due("places", x.put(0, 2, 3, 3, 8), 2);
        due("the clock", x.count(4), 116);
        int[][] want = {{0, 3, 0, 1}, {0, 3, 1, 1}, {0, 3, 2, 1}, {1, 4, 0, 0}};
        for (int i = 0; i < 4; i++) {
            for (int what = 0; what <= 3; what++) {
                due("card " + i + ", " + what, x.about(0, i, what), want[i][what]);
            }
            due("none was there", x.about(0, i, 4), 0);
        }
        due("by what it was put", x.holds(2, 0, 1), 8 + 27 + 3 + 40);
        due("and its last one", x.holds(2, 0, 3), 8 + 27 - 5);
        due("put", x.count(3), 4);
    }

    static void promise13_theClockOfAllPacks() {
        MemoryHouse x = many();
        due("the clock", x.later(50), 150);
        due("pack 1", x.about(1, 0, 3), 10);
        due("pack 2", x.about(2, 0, 3), 13);
        due("pack 3", x.about(3, 0, 3), 9);
        due("each card of pack 3 is 5 older", x.awaited(1, 3), 312 - 5 * 5);
    }

    static void promise14_onlyThePackThatIsGoneThrough() {
        MemoryHouse x = many();
        due("once", x.go(2, 20), 1);
        // touched at 100, 120 and 140; the clock is 160
        int[] ages = {6, 6, 6, 4, 4, 4, 2};
        for (int i = 0; i < 7; i++) {
            due("age of card " + i, x.about(2, i, 3), ages[i]);
        }
        due("pack 1 was not touched", x.about(1, 0, 3), 11);
        due("pack 3 was touched ahead", x.about(3, 0, 3), 10);
        due("pack 3 twice", x.go(3, 1), 2);
        due("pack 1 once", x.go(1, 1), 1);
        due("pack 2 twice", x.go(2, 1), 2);
        due("the clock", x.count(4), 160 + 3 + 6 + 3);
    }

    private static final int[][][] ABOUT = {{},
        // place, door, role, age, old, like, dull
        {{0, 5, 0, 5, 2, 1, 0}, {1, 6, 0, 5, 1, 0, 4}, {2, 7, 0, 5, 0, 0, 0}, {3, 8, 0, 4, 0, 0, 0},
            {4, 9, 0, 4, 0, 1, 0}, {5, 10, 0, 4, 0, 0, 0}},
        {{0, 3, 0, 8, 0, 1, 0}, {0, 3, 1, 8, 0, 1, 2}, {0, 3, 2, 8, 0, 1, 3}, {1, 4, 0, 7, 1, 0, 0},
            {1, 4, 1, 7, 1, 0, 5}, {1, 4, 2, 7, 1, 0, 0}, {2, 5, 0, 6, 1, 1, 0}},
        {{0, 4, 0, 4, 0, 0, 0}, {0, 4, 1, 4, 0, 0, 0}, {1, 5, 0, 3, 0, 0, 6}, {1, 5, 1, 3, 0, 0, 1},
            {2, 6, 0, 3, 0, 0, 0}}};

    static void promise15_allOfEachCard() {
        for (int pack = 1; pack <= 3; pack++) {
            MemoryHouse x = many();
            for (int i = 0; i < ABOUT[pack].length; i++) {
                due("nothing was said", x.about(pack, i, 7), NONE);
                x.say(pack, i, 20 + i);
                due("what was said", x.about(pack, i, 7), 20 + i);
                for (int what = 0; what <= 6; what++) {
                    due("card " + i + " of pack " + pack + ", " + what, x.about(pack, i, what), ABOUT[pack][i][what]);
                }
            }
        }
    }

    // Promises 16 to 26

    static void promise16_ofEachCardOfEachPack() {
        holdAsMuch(many(), 1, FADED);
        holdAsMuch(many(), 2, LAID);
    }

    static void promise17_whatItTellsNow() {
        MemoryHouse x = many();
        due("now", x.awaited(1, 2), 245);
        x.later(10);
        due("7 cards are older", x.awaited(1, 2), 238);
        x.go(2, 1);
        // at 110 111 112; the clock is 113: no age, and gone once
        due("gone through", x.awaited(1, 2), 245 + 3 * 8 + 3 * 7 + 6 + 140);
    }

    static void promise17_oldOfPack0() {
        MemoryHouse x = oneOnTheOther();
        law(x, "add 50;less 10 * old");
        due("none is under pack 0", x.awaited(0, 0), 150);
        due("pack 0 is under pack 1", x.awaited(0, 1), 120);
        due("each card", x.holds(0, 1, 2), 40);
    }

    static void promise18_onlyTheCardOfThePack() {
        MemoryHouse x = many();
        due("33 is the ghost", x.say(1, 0, 33), 2);
        due("33 is right", x.say(2, 6, 33), 0);
        due("pack 1", x.about(1, 0, 7), 33);
        due("pack 1, card 6 less", x.about(1, 5, 7), NONE);
        due("pack 2", x.about(2, 6, 7), 33);
        due("pack 2, card 0", x.about(2, 0, 7), NONE);
        due("pack 3", x.about(3, 0, 7), NONE);
    }

    static void promise18_nothingIsSaidOfAPackThatIsNotPutYet() {
        MemoryHouse x = many();
        refused("not put", STATE, () -> x.say(0, 1, 13));
        refused("nor said by draws", STATE, () -> x.run(0, 0, 1));
        x.put(0, 0, 0, 3, 1);
        for (int i = 0; i < 4; i++) {
            due("a blank", x.kind(0, i), 1);
        }
        due("none is right", x.count(9), 0);
    }

    static void promise19_slipsOfEachCard() {
        for (int pack = 1; pack <= 3; pack++) {
            for (int i = 0; i < SLIPS[pack].length; i++) {
                MemoryHouse x = many();
                int own = x.card(pack, i);
                for (int card = 0; card < 52; card++) {
                    int want = card == own ? 0 : 6;
                    for (int kind = 5; kind >= 2 && card != own; kind--) {
                        want = SLIPS[pack][i][kind - 2] == card ? kind : want;
                    }
                    x.say(pack, i, card);
                    due(card + " for card " + i + " of pack " + pack, x.kind(pack, i), want);
                }
            }
        }
    }

    static void promise19_theGhostOfTheLatestWhateverItsNumber() {
        int[][] orders = {{0, 1, 2}, {0, 2, 1}, {1, 0, 2}, {1, 2, 0}, {2, 0, 1}, {2, 1, 0}};
        for (int k = 0; k < 12; k++) {
            int[] order = orders[k / 2];
            MemoryHouse x = new MemoryHouse();
            x.house(20);
            for (int pack = 0; pack < 3; pack++) {
                x.pack(45 - 20 * pack, 1, 3);
            }
            for (int pack : order) {
                x.put(pack, 0, k % 2 == 0 ? 0 : 19, 3, 1);
            }
            due("the second one's", x.say(order[2], 1, 45 - 20 * order[1] + 1), 2);
            due("not the first one's", x.say(order[2], 1, 45 - 20 * order[0] + 1), 6);
            due("the first one's", x.say(order[1], 1, 45 - 20 * order[0] + 1), 2);
            due("none is under the first", x.say(order[0], 1, 45 - 20 * order[1] + 1), 6);
        }
    }

    static void promise19_likeInEachRole() {
        for (int house = 0; house < 3; house++) {
            MemoryHouse x = new MemoryHouse();
            for (int k = 0; k < 3; k++) {
                x.house(4);
            }
            x.pack(0, 1, 9);
            x.look(house, 1, 8);
            x.look(house, 3, 8);
            x.put(0, house, 1, 3, 1);
            // places 0 and 2 are alike
            for (int role = 0; role < 3; role++) {
                due("of place 0", x.say(0, role, 6 + role), 3);
                due("of place 2", x.say(0, 6 + role, role), 3);
                due("none is like place 1", x.say(0, 3 + role, role), 6);
            }
            x.pack(40, 1, 6);
            x.look(house, 2, 8);
            x.put(1, house, 1, 3, 1);
            for (int role = 0; role < 3; role++) {
                due("of two places the other", x.say(1, role, 43 + role), 3);
                due("and the one", x.say(1, 3 + role, 40 + role), 3);
            }
        }
    }

    private static int next(int seed) {
        return (int) (1103515245L * seed + 12345L);
    }

    private static int draw(int seed) {
        return (int) ((seed & 0xFFFFFFFFL) >> 16) & 0x7FFF;
    }

    /** What is said for each card, from what it holds and its slips, with each slip as often as its weight. */
    private static void runIs(MemoryHouse x, int law, int pack, int[] holds, int seed) {
        int[] weights = {3, 2, 2, 1};
        int got = x.run(law, pack, seed);
        int state = seed;
        int right = 0;
        for (int i = 0; i < holds.length; i++) {
            state = next(state);
            int want = x.card(pack, i);
            if (draw(state) % 100 < holds[i]) {
                right++;
            } else {
                int[] lots = new int[11];
                int all = 0;
                for (int kind = 0; kind < 4; kind++) {
                    for (int n = 0; n < weights[kind] && SLIPS[pack][i][kind] != NONE; n++) {
                        lots[all++] = SLIPS[pack][i][kind];
                    }
                }
                for (int n = 0; n < 3; n++) {
                    lots[all++] = NONE;
                }
                state = next(state);
                want = lots[draw(state) % all];
            }
            due("seed " + seed + ", card " + i + " of pack " + pack, x.about(pack, i, 7), want);
        }
        due("how many are right", got, right);
    }

    static void promise20_eachCardByWhatItHoldsAndItsSlips() {
        for (int seed = 0; seed < 60; seed++) {
            for (int pack = 1; pack <= 3; pack++) {
                MemoryHouse x = many();
                runIs(x, 1, pack, FADED[pack], seed);
                runIs(x, 2, pack, LAID[pack], -seed);
            }
        }
    }

    private static void oddsAre(MemoryHouse x, int law, int pack, int i, int... want) {
        for (int kind = 0; kind <= 5; kind++) {
            String what = "kind " + kind + " of card " + i + " of pack " + pack + " by " + law;
            due(what + ", above", x.odds(law, pack, i, kind, false), want[2 * kind]);
            due(what + ", below", x.odds(law, pack, i, kind, true), want[2 * kind + 1]);
        }
    }

    static void promise21_ofEachCardByWhatItHolds() {
        // right, blank, ghost, like, swapped, shifted; all weights are 9, 9, 6 and 7
        oddsAre(many(), 1, 2, 3, 33, 100, 67, 300, 67, 300, 0, 1, 67, 450, 67, 900);
        oddsAre(many(), 2, 2, 6, 8, 25, 17, 75, 17, 75, 34, 225, 0, 1, 17, 225);
        oddsAre(many(), 2, 3, 1, 33, 50, 17, 100, 0, 1, 0, 1, 17, 150, 17, 300);
        oddsAre(many(), 1, 1, 1, 23, 100, 33, 100, 33, 100, 0, 1, 0, 1, 11, 100);
    }

    static void promise22_ofEachPack() {
        MemoryHouse x = many();
        int[] said = {33, 47, 7, 43, 40, NONE};
        for (int i = 0; i < 6; i++) {
            x.say(1, i, said[i]);
        }
        x.say(2, 4, 8);
        x.say(2, 5, 18);
        // ghost, ghost, other, right, like, blank; and shifted, swapped
        int[] ones = {1, 1, 2, 1, 0, 0, 1};
        int[] twos = {0, 5, 0, 0, 1, 1, 0};
        int[] threes = {0, 5, 0, 0, 0, 0, 0};
        for (int kind = 0; kind <= 6; kind++) {
            due("kind " + kind + " of pack 1", x.kinds(1, kind), ones[kind]);
            due("kind " + kind + " of pack 2", x.kinds(2, kind), twos[kind]);
            due("kind " + kind + " of pack 3", x.kinds(3, kind), threes[kind]);
        }
    }

    static void promise23_ofEachPack() {
        MemoryHouse x = many();
        x.say(2, 0, 3);
        x.say(2, 1, 8);
        x.say(2, 2, 51);
        int[][] want = {{0, 18, 6}, {6, 34, 4}, {0, 15, 5}};
        for (int pack = 1; pack <= 3; pack++) {
            for (int rule = 0; rule < 3; rule++) {
                due("pack " + pack + " by " + rule, x.score(rule, pack), want[pack - 1][rule]);
            }
        }
    }

    static void promise24_byWhatIsAwaitedNow() {
        MemoryHouse x = many();
        x.say(2, 0, 3);
        x.say(2, 4, 23);
        // 200 are right; 49, 245 and 392 are awaited
        int[][] want = {{44, 0}, {45, 2}, {150, 2}, {151, 3}, {191, 3}, {192, 7}};
        for (int[] w : want) {
            due("off by " + w[0], x.fits(2, w[0]), w[1]);
        }
        // none is right in pack 3; 35, 312 and 196
        due("pack 3, 195", x.fits(3, 195), 1);
        due("pack 3, 196", x.fits(3, 196), 5);
        due("pack 3, 312", x.fits(3, 312), 7);
        x.later(10);
        due("238 then", x.fits(2, 38), 2);
    }

    static void promise25_ofEachPack() {
        MemoryHouse x = many();
        x.say(2, 0, 13);
        x.say(2, 6, 3);
        x.say(1, 2, 45);
        int[][] want = {{5, 8, 18, 23, 28, 33, NONE}, {5, 40, 41, 42, 43, 44, NONE}};
        for (int i = NONE; i <= 5; i++) {
            due("of pack 2, " + i, x.lacks(2, i), want[0][i + 1]);
            due("of pack 1, " + i, x.lacks(1, i), want[1][i + 1]);
        }
    }

    private static void guessIs(MemoryHouse x, int rule, int pack, int guesses, int above, int below) {
        due("G of pack " + pack + " by " + rule, x.guess(rule, pack, 0), guesses);
        due("above", x.guess(rule, pack, 1), above);
        due("below", x.guess(rule, pack, 2), below);
    }

    static void promise26_byEachRuleOfEachPack() {
        MemoryHouse x = many();
        x.say(2, 0, 3);
        x.say(2, 1, 8);
        x.say(2, 2, 51);
        // pack 2: four blanks, five cards that it lacks: each guess is right by a fifth
        guessIs(x, 0, 2, 4, 42, 5);
        guessIs(x, 1, 2, 0, 34, 1);
        guessIs(x, 2, 2, 0, 4, 1);
        // pack 1: five of six blanks, each right by a sixth
        guessIs(x, 0, 1, 5, 5, 2);
        guessIs(x, 1, 1, 0, 18, 1);
        // pack 3: five of five, each right by a fifth
        guessIs(x, 0, 3, 5, 3, 1);
    }

    // Promises 27 to 34

    private static MemoryHouse withMoments() {
        MemoryHouse x = many();
        due("the first", x.moment(20), 1);
        due("the second", x.moment(50), 2);
        due("the third", x.moment(90), 3);
        return x;
    }

    static void promise27_behindTheClock() {
        MemoryHouse x = withMoments();
        due("at 190 of 200", x.again(1, 2, 1, 100, false), 4);
        x.later(900);
        // the clock is 1000: at 1090 of 1100
        due("still the last", x.again(1, 2, 1, 100, false), 4);
    }

    static void promise28_putAwayForAllPacks() {
        MemoryHouse x = withMoments();
        due("three", x.moments(), 3);
        due("none for pack 2", x.again(1, 2, 3, 100, false), 0);
        due("none for pack 1", x.again(1, 1, 3, 100, true), 0);
    }

    static void promise29_ofEachPackByEachLaw() {
        MemoryHouse x = withMoments();
        // pack 2 holds 175 at 200; touched at 190 once, twice and three times: 429, 569, 682
        int[][] want = {{0, 0, 0}, {1, 4, 254}, {2, 5, 394}, {3, 7, 507}, {4, 7, 507}};
        for (int[] w : want) {
            due("at most " + w[0], x.again(1, 2, w[0], 100, false), w[1]);
            due("gain of " + w[0], x.again(1, 2, w[0], 100, true), w[2]);
        }
        // pack 1: 179 and 380
        due("pack 1", x.again(1, 1, 1, 100, false), 4);
        due("gain of pack 1", x.again(1, 1, 1, 100, true), 201);
        due("by 7 each", x.again(0, 1, 3, 100, false), 0);
        due("as it was laid", x.again(2, 3, 3, 100, true), 0);
    }

    static void promise29_fewerThatComeLaterAreTaken() {
        MemoryHouse x = Rooms.one(3, 3, 1);
        x.moment(10);
        x.moment(20);
        x.moment(30);
        // at 39: touched at 20 the last time it is 1, at 30 it is 0
        law(x, "add 50 if gone > 1 and age > 0 and age < 2 or gone < 2 and age < 1");
        due("the last one alone, not the first two", x.again(0, 0, 3, 39, false), 4);
        due("as good", x.again(0, 0, 3, 39, true), 150);
    }

    static void promise30_byEachLaw() {
        MemoryHouse x = many();
        due("7 each", x.houses(0, 10, 5, 7), 1);
        due("no more", x.houses(0, 10, 5, 8), NONE);
        // 50 less 10 for each of 9, 4, 3, 2, 1, 1, 1, 1, 1, 0
        due("40", x.houses(1, 10, 5, 40), 5);
        due("50", x.houses(1, 10, 5, 50), 10);
        due("20", x.houses(1, 10, 5, 20), 3);
        // seconds and 27
        due("32", x.houses(2, 10, 5, 32), 1);
        due("33", x.houses(2, 10, 5, 33), NONE);
        due("33 by 6 seconds", x.houses(2, 10, 6, 33), 1);
    }

    static void promise31_ofSomeHouses() {
        MemoryHouse x = many();
        int[] unlike = {0, 10, 10, 10, 7, 10, 10, 10};
        // doors by look 0 to 9: 2 2 1 1 1 1 1 1 1 1; 2 2 2 4 2 1 2 2 2 1; 1 1 1 1 1 1 1
        int[] pairs = {0, 1 + 1, 1 + 1 + 1 + 6 + 1 + 1 + 1 + 1, 6 + 6 + 3 + 10 + 3 + 1 + 3 + 3 + 3 + 1,
            0, 3 + 3 + 1 + 1 + 1 + 1 + 1, 3 + 3 + 3 + 10 + 3 + 1 + 3 + 1 + 1, 10 + 10 + 6 + 15 + 6 + 3 + 6 + 3 + 3 + 1};
        for (int houses = 0; houses < 8; houses++) {
            due("unlike of " + houses, x.unlike(houses, false), unlike[houses]);
            due("pairs of " + houses, x.unlike(houses, true), pairs[houses]);
        }
    }

    static void promise32_ofEachPackHouseAndLaw() {
        MemoryHouse x = many();
        // pack 0: 190 by ones, as pack 2 is at door 3 of house 1; 200 by twos
        due("pack 0 in house 1", x.per(1, 0, 1, 60, false), 2);
        due("sum", x.per(1, 0, 1, 60, true), 200);
        due("pack 0 in house 2", x.per(1, 0, 2, 60, false), 1);
        // pack 3, that is put there itself: 185, 229 and 250
        due("pack 3 in house 1", x.per(1, 3, 1, 60, false), 3);
        due("sum", x.per(1, 3, 1, 60, true), 250);
        // by the seconds: 90, 191 and 287
        due("pack 3 as laid", x.per(2, 3, 1, 12, false), 3);
        due("sum", x.per(2, 3, 1, 12, true), 287);
        due("by 7 each", x.per(0, 3, 2, 12, false), 1);
        due("sum", x.per(0, 3, 2, 12, true), 35);
        // pack 2 by 3 places, 4 seconds at each: 31 each, roles, the first three and the last one
        due("pack 2 in house 0", x.per(2, 2, 0, 12, false), 3);
        due("sum", x.per(2, 2, 0, 12, true), 7 * 31 + 2 * (3 + 6) + 3 * 40 - 5);
    }

    static void promise32_oldOfPack0() {
        MemoryHouse x = oneOnTheOther();
        law(x, "add 50;less 10 * old");
        due("pack 0 is under pack 1", x.per(0, 1, 0, 60, true), 120);
        due("pack 1 is put where pack 0 would be", x.per(0, 0, 0, 60, true), 120);
    }

    static void promise33_ofEachPack() {
        MemoryHouse x = many();
        int set = 1 + 16;
        // pack 0: 200, 190 and 200; pack 4: 150 in each
        due("all of them", x.plan(1, set, 1, 5, NONE), 350);
        int[] want = {0, NONE, NONE, NONE, 1};
        for (int pack = 0; pack < 5; pack++) {
            due("house of pack " + pack, x.plan(1, set, 1, 5, pack), want[pack]);
        }
        // by threes: 4 cards by two places, 3 cards by one that is the first and the last
        due("as laid", x.plan(2, set, 3, 5, NONE), 72 + 75 + 78 + 27 + 67 + 70 + 73);
        due("by 7 each", x.plan(0, 16, 2, 1, NONE), 21);
    }

    static void promise33_aPlanThatIsWorthNothing() {
        MemoryHouse x = laid();
        law(x, "");
        due("a plan all the same", x.plan(0, 17, 1, 1, NONE), 0);
        due("house of the first", x.plan(0, 17, 1, 1, 0), 0);
        due("house of the second", x.plan(0, 17, 1, 1, 4), 1);
    }

    static void promise33_oldOfPack0() {
        MemoryHouse x = new MemoryHouse();
        x.house(1);
        x.house(1);
        x.pack(0, 1, 3);
        x.pack(20, 1, 3);
        x.put(0, 0, 0, 3, 1);
        law(x, "add 50;less 10 * old");
        due("house 0 is old", x.plan(0, 2, 3, 1, 1), 1);
        due("150", x.plan(0, 2, 3, 1, NONE), 150);
    }

    static void promise34_whatIsAwaitedNowAndLater() {
        MemoryHouse x = many();
        // 3 less for each card: 18, 21 and 15
        due("all three", x.last(1, 14, 30), 3);
        due("of two", x.last(1, 6, 30), 1);
        due("pack 2 alone", x.last(1, 4, 30), 2);
        due("by 7 each", x.last(0, 14, 9999), 1);
        due("as laid", x.last(2, 12, 9999), 2);
    }

    static void promise34_whatIsNoMoreCannotBeLost() {
        MemoryHouse x = new MemoryHouse();
        x.house(20);
        x.pack(0, 1, 3);
        x.pack(40, 1, 4);
        x.pack(3, 5, 7);
        x.put(2, 0, 3, 3, 10);
        x.later(15);
        x.put(1, 0, 5, 1, 2);
        x.later(47);
        law(x, "add 10;less 1 * age");
        // the clock is 100; ages of pack 2: 10, 9 and 8, of pack 1: 5 5 5 4
        due("pack 1 holds", x.awaited(0, 1), 5 + 5 + 5 + 6);
        due("pack 2 holds", x.awaited(0, 2), 0 + 3 + 2);
        due("pack 2 has less to lose, though it is longer", x.last(0, 6, 50), 2);
        x.later(60);
        due("both have nothing", x.last(0, 6, 50), 1);
    }

    // Promises 35 to 40

    static void promise35_eachNumberTried() {
        MemoryHouse x = new MemoryHouse();
        x.chance(3, 50);
        due("three", x.risk(1, false), 3);
        x.chance(5, 50);
        due("five", x.risk(1, false), 5);
        x.chance(5, 10);
        due("three again", x.risk(1, false), 3);
    }

    static void promise36_byEachNumber() {
        MemoryHouse x = new MemoryHouse();
        x.chance(1, 80);
        x.chance(2, 70);
        x.chance(3, 50);
        // at least one: 80, 91 and 87.5 of 100; two: 49 and 50; three: 12.5
        due("one", x.risk(1, false), 2);
        due("its odds", x.risk(1, true), 910000000000L);
        due("two", x.risk(2, false), 3);
        due("its odds", x.risk(2, true), 500000000000L);
        due("three", x.risk(3, false), 3);
        due("its odds", x.risk(3, true), 125000000000L);
    }

    static void promise37_inTheirOrder() {
        MemoryHouse x = new MemoryHouse();
        due("100", x.week(100), 1);
        due("150", x.week(150), 2);
        due("by halves to 200", x.rates(200, 1), 49);
        MemoryHouse y = new MemoryHouse();
        y.week(150);
        y.week(100);
        due("not backwards", y.rates(200, 0), 0);
    }

    static void promise38_byTheGoal() {
        MemoryHouse x = new MemoryHouse();
        x.week(100);
        x.week(150);
        // towards 150: 149 by 98 and 99, 150 by 100; towards 300: 148 by 24, 150 by 25, 152 by 26
        int[][] want = {{200, 3, 49, 51, 174, 175}, {150, 3, 98, 100, 150, 150}, {300, 1, 25, 25, 187, 187},
            {100, 0, NONE, NONE, NONE, NONE}};
        for (int[] w : want) {
            for (int what = 0; what <= 4; what++) {
                due("goal " + w[0] + ", " + what, x.rates(w[0], what), w[what + 1]);
            }
        }
    }

    static void promise39_asFractions() {
        MemoryHouse x = new MemoryHouse();
        x.house(1);
        for (int k = 0; k < 5; k++) {
            x.pack(k < 3 ? 0 : 1, 1, 3);
            x.put(k, 0, 0, 3, 1);
            allRight(x, k, 3);
        }
        // 0 is there three times, 1 and 2 five times, 3 twice
        due("all are right", x.dullest(), NONE);
        x.say(0, 0, NONE);
        x.say(1, 0, 51);
        x.say(3, 2, NONE);
        due("2 of 3 is more than 1 of 2", x.dullest(), 0);
        x.say(1, 0, 0);
        due("1 of 3 is less than 1 of 2", x.dullest(), 3);
        x.say(3, 2, 3);
        x.say(0, 1, NONE);
        x.say(1, 1, NONE);
        due("2 of 5 is more than 1 of 3", x.dullest(), 1);
        x.say(2, 2, NONE);
        due("1 of 5 is less", x.dullest(), 1);
        x.say(1, 1, 1);
        due("1 of 3 is more than 1 of 5", x.dullest(), 0);
    }

    private static void allRight(MemoryHouse x, int pack, int cards) {
        for (int i = 0; i < cards; i++) {
            x.say(pack, i, x.card(pack, i));
        }
    }

    static void promise39_packsOfAnyNumber() {
        MemoryHouse x = many();
        allRight(x, 1, 6);
        allRight(x, 2, 7);
        due("the least of pack 3; 0 and 4 are not put", x.dullest(), 47);
        allRight(x, 3, 5);
        due("none", x.dullest(), NONE);
    }

    /** The two cards are those by a law that is 50, and 5 less for each dull, where so. */
    private static void changeIs(String where, int lesser, int greater) {
        MemoryHouse x = laid();
        law(x, "add 50;less 5 * dull if " + where);
        due("where " + where, x.change(0), lesser == NONE ? NONE : 52 * lesser + greater);
    }

    static void promise40_byWhereEachCardIsPut() {
        // dull: 41 by 4, 8 by 2, 13 by 3, 23 by 5, 49 by 6, 48 by 1; the two best ones help each other
        changeIs("0 < 1", 23, 49);
        changeIs("old > 0", 23, 41);
        changeIs("age < 5", 48, 49);
        changeIs("age < 8 and age > 4", 23, 41);
        changeIs("gone > 0", 48, 49);
        changeIs("role > 0", 13, 23);
        changeIs("role > 1", 0, 13);
        changeIs("role < 1", 0, 49);
        changeIs("first", 8, 13);
        changeIs("last", NONE, NONE);
        changeIs("not first and not last", 23, 49);
        changeIs("like > 0", 8, 13);
        changeIs("per > 2", 13, 23);
        changeIs("seconds < 5", 0, 41);
    }

    static void promise40_oldOfPack0() {
        MemoryHouse x = oneOnTheOther();
        law(x, "add 50;less 5 * dull if old > 0");
        x.dull(20, 0, 6);
        x.dull(1, 1, 9);
        due("card 1 is not old, and 20 is", x.change(0), 20);
    }

    // Promises 41 to 43

    static void promise41_eachPackAsItIs() {
        MemoryHouse x = many();
        x.say(3, 4, 47);
        x.image();
        holdAsMuch(x, 1, FADED);
        for (int pack = 1; pack <= 3; pack++) {
            x.go(pack, 10);
            x.say(pack, 0, 51);
        }
        x.look(1, 3, 1);
        x.dull(23, 1, 0);
        x.put(0, 1, 3, 1, 1);
        due("back", x.back(), true);
        holdAsMuch(x, 1, FADED);
        holdAsMuch(x, 2, LAID);
        due("47 is right", x.about(3, 4, 7), 47);
        due("51 was not said", x.about(2, 0, 7), NONE);
        refused("pack 0 is not put", STATE, () -> x.kind(0, 0));
    }

    /** No two of its counts are the same. */
    private static MemoryHouse counted() {
        MemoryHouse x = new MemoryHouse();
        x.house(3);
        x.house(20);
        x.house(5);
        x.house(20);
        for (int k = 0; k < 7; k++) {
            x.pack(7 * k, 1, 3);
        }
        for (int k = 6; k > 1; k--) {
            x.put(k, 3, 2 * k, 3, k);
        }
        law(x, "add 1 * seconds");
        for (int k = 0; k < 3; k++) {
            rule(x, "add " + k + " * right");
        }
        for (int k = 0; k < 9; k++) {
            x.week(10 * k);
        }
        for (int k = 1; k <= 6; k++) {
            x.moment(100 * k);
        }
        x.chance(5, 60);
        x.look(3, 19, 4);
        x.say(6, 1, 43);
        x.say(2, 2, 16);
        return x;
    }

    private static void countsAre(MemoryHouse x, int... want) {
        for (int what = 0; what <= 9; what++) {
            due("count " + what, x.count(what), want[what]);
        }
    }

    static void promise42_eachCountIsThatOfTheImage() {
        MemoryHouse x = counted();
        x.image();
        x.house(4);
        x.pack(0, 3, 5);
        x.put(0, 1, 0, 1, 1);
        x.put(1, 1, 0, 1, 1);
        x.put(7, 1, 0, 1, 1);
        law(x, "");
        law(x, "");
        x.week(1);
        x.week(2);
        x.moments();
        x.moment(7);
        x.later(1000);
        x.say(0, 0, 0);
        x.say(6, 1, NONE);
        x.say(6, 2, 44);
        x.say(5, 2, 37);
        countsAre(x, 5, 52, 8, 8, 20 + 3 + 3 + 5 + 1000, 3, 3, 11, 1, 4);
        due("back", x.back(), true);
        countsAre(x, 4, 48, 7, 5, 20, 1, 3, 9, 6, 2);
        due("the next week", x.week(100), 10);
        due("the next house", x.house(1), 4);
        due("the next pack", x.pack(0, 1, 3), 7);
        due("the next law", law(x, ""), 1);
        refused("a fourth rule", UNSUP, () -> rule(x, ""));
        refused("a seventh moment", UNSUP, () -> x.moment(601));
    }

    static void promise42_eachDoorAndChanceIsThatOfTheImage() {
        MemoryHouse x = counted();
        x.image();
        for (int house = 0; house < 4; house++) {
            x.look(house, 2, 9);
            x.look(house, 1, 9);
            x.look(house, house % 2 == 1 ? 19 : 0, 9);
        }
        for (int tried = 1; tried <= 6; tried++) {
            x.chance(tried, 100);
        }
        x.back();
        int[] pairs = {0, 10, 0, 9 + 2};
        for (int house = 0; house < 4; house++) {
            due("pairs of house " + house, x.unlike(1 << house, true), pairs[house]);
        }
        due("five of five", x.risk(5, true), 77760000000L);
        due("one of one", x.risk(1, false), 5);
    }

    static void promise43_eachCountByItself() {
        countsAre(counted(), 4, 48, 7, 5, 20, 1, 3, 9, 6, 2);
    }

    static void promise43_rightInPacksOfAnyNumber() {
        MemoryHouse x = many();
        x.say(3, 4, 47);
        due("one of pack 3", x.count(9), 1);
        x.say(1, 0, 40);
        due("and one of pack 1", x.count(9), 2);
    }
}
