/** Each promise by itself: ordinary inputs, the edges that the document names, wrong inputs; all reckoned by hand. */
public final class PromiseTest extends Check {
    public static void main(String[] args) {
        newObject();
        tape();
        texts();
        wrongTexts();
        lawTells();
        conditions();
        tableAndHouses();
        packs();
        putting();
        clock();
        about();
        holdsAndAwaited();
        kinds();
        runs();
        odds();
        scoreAndFits();
        lacksAndGuess();
        again();
        housesNeeded();
        unlike();
        per();
        plan();
        last();
        risk();
        weeks();
        dullest();
        change();
        image();
        throwsChangeNothing();
        finish();
    }

    private static void newObject() {
        MemoryHouse x = new MemoryHouse();
        for (int what = 0; what <= 9; what++) {
            due("count(" + what + ") of a new object", x.count(what), 0);
        }
        due("count(-1)", x.count(-1), NONE);
        due("count(10)", x.count(10), NONE);
        due("fault() ahead of any", x.fault(), NONE);
        due("back() of a new object", x.back(), false);
        due("NONE", NONE, -1);
    }

    private static void tape() {
        MemoryHouse x = new MemoryHouse();
        due("feed", x.feed(1, 2, 3, 4, 5), 20);
        due("end below 0", x.end(-1), false);
        due("end of more than there are", x.end(21), false);
        due("end of all", x.end(20), true);
        due("end", x.end(7), true);
        due("end beyond", x.end(8), false);
        due("feed behind", x.feed(0, 0, 0, 0, 0), 27);
        x.end(0);
        for (int k = 1; k <= 20; k++) {
            due("feed " + k, x.feed(0, 0, 0, 0, 0), 20 * k);
        }
        due("feed of a full tape", x.feed(0, 0, 0, 0, 0), NONE);
        due("the full tape stays", x.end(400), true);
        x.end(381);
        due("feed of 381", x.feed(0, 0, 0, 0, 0), NONE);
        due("none came", x.end(382), false);
        x.end(380);
        due("feed of 380", x.feed(0, 0, 0, 0, 0), 400);
        x.end(0);
        // "add " is 61 64 64 20, a number's highest byte first
        x.feed(0x61646420, 0x37202020, 0x20202020, 0x20202020, 0x20202020);
        due("bytes from the highest", x.law(), 0);
        due("the tape is used up", x.end(1), false);
        x.feed(-1, -1, -1, -1, -1);
        refused("wrong text", ARG, x::law);
        due("a wrong one is used up too", x.end(1), false);
    }

    private static void texts() {
        MemoryHouse x = new MemoryHouse();
        due("an empty law", x.law(), 0);
        due("law of blanks", law(x, "     "), 1);
        due("third law", law(x, "add 1"), 2);
        write(x, "ad 1");
        refused("a wrong fourth law", ARG, x::law);
        due("its fault", x.fault(), 0);
        write(x, "add 1");
        refused("a fourth law", UNSUP, x::law);
        due("it was read, and is right", x.fault(), NONE);
        due("its tape is used up", x.end(1), false);
        due("laws", x.count(5), 3);
        due("an empty rule", x.rule(), 0);
        due("rule of blanks", rule(x, " "), 1);
        due("third rule", rule(x, "less 999 * blank"), 2);
        write(x, "add 1 * seconds");
        refused("a wrong fourth rule", ARG, x::rule);
        due("its fault", x.fault(), 8);
        refused("a fourth rule", UNSUP, x::rule);
        due("it was right", x.fault(), NONE);
        due("rules", x.count(6), 3);
    }

    private static void wrongTexts() {
        lawFault("add5*seconds;less3if first", NONE);
        lawFault("  add  5  *  age  if  ( first or not last ) and 1 + age < 2 + old  ;  less 1  ", NONE);
        lawFault("add 000", NONE);
        lawFault("add 0001", 4);
        lawFault("add1000", 3);
        lawFault("add", 3);
        lawFault("add  ", 5);
        lawFault("addx 5", 0);
        lawFault("Add 5", 0);
        lawFault("5", 0);
        lawFault(";", 0);
        lawFault("add 5;;add 5", 6);
        lawFault("add 5; ", 7);
        lawFault("add 5\tif first", 5);
        lawFault("add 5 * 5", 8);
        lawFault("add 5 * first", 8);
        lawFault("add 5 * whole", 8);
        lawFault("add 5 * right", 8);
        lawFault("add 5 * age * age", 12);
        lawFault("add 5 iffirst", 6);
        lawFault("add 5 if first last", 15);
        lawFault("add 5 if first add 5", 15);
        lawFault("add 5 if 5", 10);
        lawFault("add 5 if age + first < 3", 15);
        lawFault("add 5 if age < 3 < 4", 17);
        lawFault("add 5 if age < 1234", 15);
        lawFault("add 5 if age < 3 +", 18);
        lawFault("add 5 if ()", 10);
        lawFault("add 5 if (first", 15);
        lawFault("add 5 if (first))", 16);
        lawFault("add 5 if first)", 14);
        lawFault("add 5 if (age) < 3", 13);
        lawFault("add 5 if not", 12);
        lawFault("add 5 if not age < 3 and last", NONE);
        lawFault("add 5 if first or", 17);
        lawFault("add 5 if first and or", 19);
        lawFault("add 1 if not(not(not(first)))", NONE);
        lawFault("add 1 if not(not(not(not first)))", 25 - 4);
        lawFault("add 1 if ((((((first))))))", NONE);
        lawFault("add 1 if (((((((first)))))))", 15);
        lawFault("add 1 if not not not not not not first and not not not not not not last", NONE);
        lawFault("add 1 if (((((first))))) and (((((not last)))))", NONE);
        lawFault("add 1 if (((((first))))) and ((((((not last))))))", 35);
        lawFault("add 1;add 1;add 1;add 1;add 1;add 1;add 1;add 1;add 1;add 1", NONE);
        lawFault("add 1;add 1;add 1;add 1;add 1;add 1;add 1;add 1;add 1;add 1;", 60);
        lawFault("add 1;add 1;add 1;add 1;add 1;add 1;add 1;add 1;add 1;add 1; less 1", 61);
        lawFault("add 1" + (char) 0, 5);
        lawFault("add 1" + (char) 225, 5);
        // a full tape: 400 bytes, each a thing by itself but for the first
        StringBuilder full = new StringBuilder("add 1 if 1<1");
        while (full.length() < 400) {
            full.append("+1");
        }
        lawFault(full.toString(), NONE);
        lawFault(full.substring(0, 399), 399);
        lawFault(full.substring(0, 399) + ";", 399);
        lawFault(";".repeat(400), 0);
        lawFault(" ".repeat(400), NONE);
        lawFault(" ".repeat(399) + "+", 399);
        lawFault("a".repeat(400), 0);
        lawFault("add " + "1".repeat(396), 4);
        ruleFault("add 1 * right; less 1 * wrong if whole; add 2 * blank if cards + 1 > 5", NONE);
        ruleFault("add 1 * old", 8);
        ruleFault("add 1 if last", 9);
        ruleFault("add 1 if age < 1", 9);
        ruleFault("add 1 * whole", 8);
    }

    /** A house of 20 doors and a pack of 3 cards, one to a place, 7 seconds each: a law of it holds so much. */
    private static void tells(String text, int... want) {
        MemoryHouse x = new MemoryHouse();
        x.house(20);
        x.pack(0, 1, 3);
        x.put(0, 0, 0, 1, 7);
        law(x, text);
        for (int i = 0; i < want.length; i++) {
            due(text + " of card " + i, x.holds(0, 0, i), want[i]);
        }
    }

    private static void lawTells() {
        tells("", 0, 0, 0);
        tells("add 40", 40, 40, 40);
        tells("add 40;less 41", 0, 0, 0);
        tells("less 50;add 99", 49, 49, 49);
        tells("add 999", 100, 100, 100);
        tells("add 100;add 1", 100, 100, 100);
        tells("add 200;less 150", 50, 50, 50);
        tells("add 5 * seconds", 35, 35, 35);
        tells("add 30 * per", 30, 30, 30);
        // the clock is 21; the places were put at 0, 7, 14
        tells("add 10 * age", 20, 10, 0);
        tells("add 50 if first", 50, 0, 0);
        tells("add 50 if last", 0, 0, 50);
        tells("add 50;less 2 * seconds if first;add 1 * age if not first", 36, 51, 50);
    }

    private static void conditions() {
        tells("add 9 if seconds < 7", 0);
        tells("add 9 if seconds < 8", 9);
        tells("add 9 if seconds > 7", 0);
        tells("add 9 if seconds > 6", 9);
        tells("add 9 if 7 > seconds", 0);
        tells("add 9 if seconds + 1 + 2 > 9", 9);
        tells("add 9 if seconds + per + 002 > 1 + 9", 0);
        tells("add 9 if not first", 0, 9, 9);
        tells("add 9 if not not first", 9, 0, 0);
        tells("add 9 if first or last", 9, 0, 9);
        tells("add 9 if first and last", 0, 0, 0);
        // and binds closer than or
        tells("add 9 if first or last and 1 < 0", 9, 0, 0);
        tells("add 9 if (first or last) and 1 < 0", 0, 0, 0);
        tells("add 9 if 1 < 0 and first or last", 0, 0, 9);
        // not takes one ATOM alone, and a comparison is one
        tells("add 9 if not first and last", 0, 0, 9);
        tells("add 9 if not first or last", 0, 9, 9);
        tells("add 9 if not (first or last)", 0, 9, 0);
        tells("add 9 if not seconds < 7 and first", 9, 0, 0);
    }

    private static void tableAndHouses() {
        MemoryHouse x = new MemoryHouse();
        due("dull at first", x.dull(51, 2, 9), 0);
        due("dull as it was", x.dull(51, 2, 0), 9);
        due("another role", x.dull(51, 1, 4), 0);
        refused("dull of card -1", OUT, () -> x.dull(-1, 0, 0));
        refused("dull of card 52", OUT, () -> x.dull(52, 0, 0));
        refused("dull of role -1", OUT, () -> x.dull(0, -1, 0));
        refused("dull of role 3, 10", OUT, () -> x.dull(0, 3, 10));
        refused("dull 10", ARG, () -> x.dull(51, 1, 10));
        refused("dull -1", ARG, () -> x.dull(51, 1, -1));
        due("it is as it was", x.dull(51, 1, 4), 4);
        refused("a house of 0", ARG, () -> x.house(0));
        refused("a house of 21", ARG, () -> x.house(21));
        for (int k = 0; k < 6; k++) {
            due("house " + k, x.house(k == 0 ? 1 : 20), k);
        }
        refused("a seventh house", UNSUP, () -> x.house(5));
        refused("a seventh house of 0", ARG, () -> x.house(0));
        due("doors", x.count(1), 101);
        due("houses", x.count(0), 6);
        refused("look in house 6", OUT, () -> x.look(6, 0, 0));
        refused("look in house -1", OUT, () -> x.look(-1, 0, 0));
        refused("look of door 1 of one", OUT, () -> x.look(0, 1, 10));
        refused("look of door -1", OUT, () -> x.look(0, -1, 0));
        refused("look 10", ARG, () -> x.look(1, 0, 10));
        refused("look -1", ARG, () -> x.look(1, 0, -1));
        due("20 doors: each look twice", x.unlike(2, true), 10);
        x.look(1, 0, 9);
        due("then one look once, one three times", x.unlike(2, true), 8 + 3);
        due("and still all looks", x.unlike(2, false), 10);
    }

    private static void packs() {
        MemoryHouse x = new MemoryHouse();
        refused("start -1", ARG, () -> x.pack(-1, 1, 3));
        refused("start 52", ARG, () -> x.pack(52, 1, 3));
        refused("step 0", ARG, () -> x.pack(0, 0, 3));
        refused("step 52", ARG, () -> x.pack(0, 52, 3));
        refused("step 53", ARG, () -> x.pack(0, 53, 3));
        refused("step -1", ARG, () -> x.pack(0, -1, 3));
        refused("step 26", ARG, () -> x.pack(0, 26, 3));
        refused("step 39", ARG, () -> x.pack(0, 39, 3));
        refused("2 cards", ARG, () -> x.pack(0, 1, 2));
        refused("53 cards", ARG, () -> x.pack(0, 1, 53));
        due("a pack", x.pack(50, 3, 52), 0);
        due("card 0", x.card(0, 0), 50);
        due("card 1", x.card(0, 1), 1);
        due("card 51", x.card(0, 51), (50 + 153) % 52);
        refused("card 52", OUT, () -> x.card(0, 52));
        refused("card -1", OUT, () -> x.card(0, -1));
        refused("card of pack 1", OUT, () -> x.card(1, 0));
        refused("card of pack -1", OUT, () -> x.card(-1, 0));
        for (int k = 1; k < 8; k++) {
            due("pack " + k, x.pack(k, 51, 3), k);
        }
        refused("a ninth pack", UNSUP, () -> x.pack(0, 1, 3));
        refused("a ninth one that is none", ARG, () -> x.pack(0, 2, 3));
        due("packs", x.count(2), 8);
        due("none is put", x.count(3), 0);
    }

    private static void putting() {
        MemoryHouse x = new MemoryHouse();
        x.house(3);
        x.pack(0, 1, 7);
        x.pack(0, 1, 3);
        refused("no pack", OUT, () -> x.put(2, 0, 0, 3, 1));
        refused("no house", OUT, () -> x.put(0, 1, 0, 3, 1));
        refused("no door", OUT, () -> x.put(0, 0, 3, 3, 1));
        refused("door -1", OUT, () -> x.put(0, 0, -1, 3, 1));
        refused("per 0", ARG, () -> x.put(0, 0, 0, 0, 1));
        refused("per 4", ARG, () -> x.put(0, 0, 0, 4, 1));
        refused("seconds 0", ARG, () -> x.put(0, 0, 0, 3, 0));
        refused("seconds 61", ARG, () -> x.put(0, 0, 0, 3, 61));
        refused("7 cards, 2 to a place, 3 doors", ARG, () -> x.put(0, 0, 0, 2, 1));
        refused("7 cards, 3 to a place, from door 1 on", ARG, () -> x.put(0, 0, 1, 3, 1));
        due("none is put", x.count(3), 0);
        due("the clock stands", x.count(4), 0);
        due("7 cards, 3 to a place", x.put(0, 0, 0, 3, 60), 3);
        due("the clock went on", x.count(4), 180);
        due("one is put", x.count(3), 1);
        refused("put again", STATE, () -> x.put(0, 0, 0, 3, 60));
        refused("put again, per none", STATE, () -> x.put(0, 0, 0, 9, 60));
        refused("put again, no door", OUT, () -> x.put(0, 0, 9, 3, 60));
        x.later(1000000 - 180 - 5);
        refused("past the clock", ARG, () -> x.put(1, 0, 0, 1, 2));
        due("to the clock's end but two", x.put(1, 0, 0, 1, 1), 3);
        due("the clock", x.count(4), 999998);
    }

    private static void clock() {
        MemoryHouse x = new MemoryHouse();
        x.house(20);
        x.pack(0, 1, 5);
        x.pack(0, 1, 5);
        refused("later -1", ARG, () -> x.later(-1));
        due("later 0", x.later(0), 0);
        due("later 7", x.later(7), 7);
        refused("go of none", OUT, () -> x.go(2, 61));
        refused("go of one that is not put", STATE, () -> x.go(0, 61));
        x.put(0, 0, 0, 2, 4);
        due("the clock", x.count(4), 19);
        refused("go 0 seconds", ARG, () -> x.go(0, 0));
        refused("go 61 seconds", ARG, () -> x.go(0, 61));
        due("gone once", x.go(0, 60), 1);
        due("gone twice", x.go(0, 1), 2);
        due("the clock after", x.count(4), 19 + 180 + 3);
        refused("later past the most", ARG, () -> x.later(1000000 - 201));
        refused("later far past the most", ARG, () -> x.later(Integer.MAX_VALUE));
        due("later to the most", x.later(1000000 - 202), 1000000);
        refused("go past the most", ARG, () -> x.go(0, 1));
        refused("put past the most", ARG, () -> x.put(1, 0, 0, 1, 1));
        due("later 0 at the most", x.later(0), 1000000);
        // the last going through began at 199, a place a second
        due("age of place 0", x.about(0, 0, 3), 99980);
        due("age of place 2", x.about(0, 4, 3), 99979);
    }

    private static void about() {
        MemoryHouse x = new MemoryHouse();
        x.house(20);
        x.house(20);
        x.pack(10, 1, 8);
        x.pack(30, 1, 4);
        x.pack(40, 1, 3);
        x.dull(14, 1, 6);
        x.look(0, 4, 2);
        refused("about a pack that is not put", STATE, () -> x.about(0, 0, 9));
        refused("about no pack", OUT, () -> x.about(3, 0, 0));
        refused("about no card", OUT, () -> x.about(0, 8, 0));
        x.put(2, 1, 2, 1, 1);
        x.put(0, 0, 2, 3, 10);
        x.put(1, 0, 3, 2, 10);
        // pack 0: doors 2, 3, 4 from 3 seconds on; pack 1: doors 3, 4 from 33 on; the clock is 53
        due("place", x.about(0, 4, 0), 1);
        due("door", x.about(0, 4, 1), 3);
        due("role", x.about(0, 4, 2), 1);
        due("age", x.about(0, 4, 3), 4);
        due("age of the first place", x.about(0, 0, 3), 5);
        due("age of the last place", x.about(0, 7, 3), 3);
        due("old of the first one", x.about(0, 4, 4), 0);
        due("old of the second one", x.about(1, 0, 4), 1);
        due("old of the other house", x.about(2, 0, 4), 0);
        due("like of door 2", x.about(0, 0, 5), 1);
        due("like of door 3", x.about(0, 3, 5), 0);
        due("like of door 4", x.about(0, 7, 5), 1);
        due("dull", x.about(0, 4, 6), 6);
        due("said", x.about(0, 4, 7), NONE);
        x.say(0, 4, 0);
        due("said 0", x.about(0, 4, 7), 0);
        refused("about 8", NOSUCH, () -> x.about(0, 0, 8));
        refused("about -1", NOSUCH, () -> x.about(0, 0, -1));
        x.go(0, 7);
        // gone through from 53 on, 7 seconds a place; the clock is 74
        due("age of place 0 then", x.about(0, 0, 3), 2);
        due("age of place 1 then", x.about(0, 3, 3), 1);
        due("age of place 2 then", x.about(0, 6, 3), 0);
        due("old stays", x.about(0, 3, 4), 0);
    }

    private static void holdsAndAwaited() {
        MemoryHouse x = new MemoryHouse();
        x.house(20);
        x.pack(0, 1, 5);
        x.pack(20, 1, 3);
        law(x, "add 60;less 4 * dull;less 3 * old;less 20 * like;less 1 * age;add 2 * gone;add 5 * per;less 10 * role");
        refused("holds by no law", OUT, () -> x.holds(1, 0, 0));
        refused("holds of no card", OUT, () -> x.holds(0, 0, 5));
        refused("holds of no pack", OUT, () -> x.holds(0, 2, 0));
        refused("holds of a pack that is not put", STATE, () -> x.holds(0, 0, 0));
        refused("awaited by no law", OUT, () -> x.awaited(-1, 0));
        refused("awaited of no pack", OUT, () -> x.awaited(0, -1));
        refused("awaited of a pack that is not put", STATE, () -> x.awaited(0, 0));
        x.put(0, 0, 8, 2, 10);
        // places 0, 1, 2 were put at 0, 10, 20; the clock is 30: ages 3, 2, 1; 60 and 10 for per
        due("card 0", x.holds(0, 0, 0), 67);
        due("card 1", x.holds(0, 0, 1), 57);
        due("card 3", x.holds(0, 0, 3), 58);
        due("awaited", x.awaited(0, 0), 67 + 57 + 68 + 58 + 69);
        x.dull(1, 1, 9);
        x.dull(1, 0, 5);
        due("a dull card", x.holds(0, 0, 1), 21);
        x.look(0, 10, 8);
        due("a like place", x.holds(0, 0, 4), 49);
        x.go(0, 1);
        // gone at 30, 31, 32; the clock is 33: age 0 everywhere
        due("gone once", x.holds(0, 0, 3), 62);
        x.put(1, 0, 9, 1, 1);
        due("old counts what was ahead", x.holds(0, 1, 0), 62);
        due("not what came behind", x.holds(0, 0, 3), 62);
    }

    /** Pack 1 (20 to 27, 3 to a place) lies over pack 0 (0 to 3, 1 to a place, doors 1 to 4), at doors 0 to 2. */
    private static MemoryHouse slips() {
        MemoryHouse x = new MemoryHouse();
        x.house(20);
        x.pack(0, 1, 4);
        x.pack(20, 1, 8);
        x.put(0, 0, 1, 1, 1);
        x.put(1, 0, 0, 3, 1);
        x.look(0, 2, 0);
        return x;
    }

    private static void kinds() {
        MemoryHouse x = slips();
        due("blank at first", x.kind(1, 0), 1);
        due("right", x.say(1, 0, 20), 0);
        due("kind of it", x.kind(1, 0), 0);
        due("a blank", x.say(1, 0, NONE), 1);
        // place 0 (door 0): nobody was there; place 2 (door 2) is alike, of 26, 27
        due("like", x.say(1, 0, 26), 3);
        due("swapped", x.say(1, 0, 21), 4);
        due("shifted", x.say(1, 0, 23), 5);
        due("other", x.say(1, 0, 22), 6);
        due("place 2 has no whom to be like", x.say(1, 2, 26), 6);
        due("swapped: the first for the last", x.say(1, 2, 20), 4);
        due("not the one before", x.say(1, 2, 21), 6);
        // place 1 (door 1): card 0 of pack 0 as a who; no what there
        due("ghost", x.say(1, 3, 0), 2);
        due("no ghost of a what", x.say(1, 4, 0), 6);
        due("shifted on", x.say(1, 3, 26), 5);
        due("not back, if on has one", x.say(1, 3, 20), 6);
        due("back, if on has none", x.say(1, 5, 22), 5);
        due("back from the last place", x.say(1, 6, 23), 5);
        due("ghost of the last place", x.say(1, 6, 1), 2);
        due("like of the last place", x.say(1, 7, 21), 3);
        due("swapped of two", x.say(1, 7, 26), 4);
        due("a what of the last place shifts back", x.say(1, 7, 24), 5);
        refused("say of no pack", OUT, () -> x.say(2, 0, 0));
        refused("say of no card", OUT, () -> x.say(1, 8, 0));
        refused("say of card -1", OUT, () -> x.say(1, -1, 0));
        refused("say card 52", OUT, () -> x.say(1, 0, 52));
        refused("say card -2", OUT, () -> x.say(1, 0, -2));
        x.pack(0, 1, 3);
        refused("say of one that is not put", STATE, () -> x.say(2, 0, 0));
        refused("say card 52 of one that is not put", OUT, () -> x.say(2, 0, 52));
        refused("kind of one that is not put", STATE, () -> x.kind(2, 0));
        refused("kind of no card", OUT, () -> x.kind(2, 3));
        // said: 22 other, none blank, 21 other, 20 other, 0 other, 22 shifted, 1 ghost, 24 shifted
        int[] want = {0, 1, 1, 0, 0, 2, 4};
        for (int kind = 0; kind <= 6; kind++) {
            due("kinds " + kind, x.kinds(1, kind), want[kind]);
        }
        refused("kinds -1", ARG, () -> x.kinds(1, -1));
        refused("kinds 7", ARG, () -> x.kinds(1, 7));
        refused("kinds 7 of one that is not put", STATE, () -> x.kinds(2, 7));
        refused("kinds of no pack", OUT, () -> x.kinds(3, 7));
        ghosts();
    }

    private static void ghosts() {
        MemoryHouse x = new MemoryHouse();
        x.house(20);
        for (int k = 0; k < 4; k++) {
            x.pack(10 * k, 1, 6);
        }
        x.put(3, 0, 0, 3, 1);
        x.put(1, 0, 1, 1, 1);
        x.put(0, 0, 1, 2, 1);
        x.put(2, 0, 1, 3, 1);
        // door 1: 33 34 35 of pack 3, then 10 of pack 1, then 0 1 of pack 0
        due("the latest who", x.say(2, 0, 0), 2);
        due("no earlier who", x.say(2, 0, 10), 6);
        due("the latest what", x.say(2, 1, 1), 2);
        due("the latest whom there was", x.say(2, 2, 35), 2);
        due("of the one ahead", x.say(0, 0, 10), 2);
        due("a what ahead of that", x.say(0, 1, 34), 2);
        due("the first one has no ghosts", x.say(3, 3, 10), 6);
        // door 3: 12 of pack 1, then 4 5 of pack 0; pack 2 ends ahead of it
        x.pack(4, 1, 3);
        x.put(4, 0, 3, 1, 1);
        due("a ghost that is the card itself is right", x.say(4, 0, 4), 0);
        law(x, "");
        // ghost 3, shifted 1, blank 3
        due("it has its odds all the same", x.odds(0, 4, 0, 2, true), 7);
        for (int seed = 0; seed < 40; seed++) {
            due("and counts as right when it is drawn", x.run(0, 4, seed), x.kinds(4, 0));
        }
    }

    private static int drawn(int seed) {
        return seed * 1103515245 + 12345;
    }

    private static void runs() {
        MemoryHouse x = slips();
        law(x, "add 100");
        law(x, "");
        law(x, "add 50");
        refused("run by no law", OUT, () -> x.run(3, 1, 0));
        refused("run of no pack", OUT, () -> x.run(0, 2, 0));
        due("all right", x.run(0, 1, 12345), 8);
        due("count of right ones", x.count(9), 8);
        due("none by the empty law", x.run(1, 0, 7), 0);
        x.pack(0, 1, 3);
        refused("run of one that is not put", STATE, () -> x.run(0, 2, 0));
        for (int seed = -3; seed <= 3; seed++) {
            int got = x.run(2, 1, seed * 77777777);
            due("run is how many are right", got, x.kinds(1, 0));
            int s = seed * 77777777;
            // of each card the slips in order, by weight; -2: there is none
            int[][] slips = {{-2, 26, 21, 23}, {-2, 27, 22, 24}, {-2, -2, 20, 25}, {0, -2, 24, 26}, {-2, -2, 25, 27},
                {-2, -2, 23, 22}, {1, 20, 27, 23}, {-2, 21, 26, 24}};
            int[] weights = {3, 2, 2, 1};
            for (int i = 0; i < 8; i++) {
                s = drawn(s);
                int said = 20 + i;
                if ((s >> 16 & 32767) % 100 >= 50) {
                    s = drawn(s);
                    int all = 3;
                    for (int k = 0; k < 4; k++) {
                        all += slips[i][k] == -2 ? 0 : weights[k];
                    }
                    int rest = (s >> 16 & 32767) % all;
                    said = NONE;
                    for (int k = 3; k >= 0; k--) {
                        int below = 0;
                        for (int j = 0; j < k; j++) {
                            below += slips[i][j] == -2 ? 0 : weights[j];
                        }
                        if (slips[i][k] != -2 && rest >= below && rest < below + weights[k]) {
                            said = slips[i][k];
                        }
                    }
                }
                due("run " + seed + " says for card " + i, x.about(1, i, 7), said);
            }
        }
    }

    private static void odds() {
        MemoryHouse x = slips();
        law(x, "add 40");
        law(x, "add 100");
        law(x, "");
        // card 6 of pack 1 has all: 3 + 2 + 2 + 1 + 3 are 11; 60 of 100
        int[][] want = {{2, 5}, {9, 55}, {9, 55}, {6, 55}, {6, 55}, {3, 55}};
        for (int kind = 0; kind <= 5; kind++) {
            due("odds " + kind + " above", x.odds(0, 1, 6, kind, false), want[kind][0]);
            due("odds " + kind + " below", x.odds(0, 1, 6, kind, true), want[kind][1]);
        }
        // card 2: swapped 2, shifted 1, blank 3
        due("odds of no ghost above", x.odds(0, 1, 2, 2, false), 0);
        due("odds of no ghost below", x.odds(0, 1, 2, 2, true), 1);
        due("odds of a blank above", x.odds(2, 1, 2, 1, false), 1);
        due("odds of a blank below", x.odds(2, 1, 2, 1, true), 2);
        due("odds of right above", x.odds(1, 1, 2, 0, false), 1);
        due("odds of right below", x.odds(1, 1, 2, 0, true), 1);
        due("odds of a blank, all right", x.odds(1, 1, 2, 1, true), 1);
        due("odds of not right above", x.odds(2, 1, 2, 0, false), 0);
        refused("odds of kind 6", ARG, () -> x.odds(0, 1, 0, 6, false));
        refused("odds of kind -1", ARG, () -> x.odds(0, 1, 0, -1, false));
        refused("odds by no law", OUT, () -> x.odds(3, 1, 0, 6, false));
        refused("odds of no card", OUT, () -> x.odds(0, 1, 8, 6, false));
        refused("odds of no pack", OUT, () -> x.odds(0, 2, 0, 6, false));
        x.pack(0, 1, 3);
        refused("odds of one that is not put", STATE, () -> x.odds(0, 2, 0, 6, false));
    }

    private static void scoreAndFits() {
        MemoryHouse x = new MemoryHouse();
        x.house(20);
        x.pack(0, 1, 4);
        rule(x, "add 100 * right;add 10 * wrong;add 1 * blank");
        rule(x, "less 7 * cards;add 50 if whole");
        refused("score by no rule", OUT, () -> x.score(2, 0));
        refused("score of no pack", OUT, () -> x.score(0, 1));
        refused("score of one that is not put", STATE, () -> x.score(0, 0));
        refused("fits of one that is not put", STATE, () -> x.fits(0, -1));
        refused("fits of no pack", OUT, () -> x.fits(1, -1));
        x.put(0, 0, 0, 1, 1);
        due("fits without laws", x.fits(0, 5200), 0);
        law(x, "add 20");
        law(x, "add 75");
        law(x, "");
        due("all blank", x.score(0, 0), 4);
        x.say(0, 0, 0);
        x.say(0, 1, 5);
        due("1 right, 1 wrong, 2 blank", x.score(0, 0), 112);
        due("not whole", x.score(1, 0), -28);
        // awaited 80, 300, 0; 100 for the right one
        due("fits 19", x.fits(0, 19), 0);
        due("fits 20", x.fits(0, 20), 1);
        due("fits 100", x.fits(0, 100), 5);
        due("fits 199", x.fits(0, 199), 5);
        due("fits 200", x.fits(0, 200), 7);
        due("fits at most", x.fits(0, 5200), 7);
        refused("fits -1", ARG, () -> x.fits(0, -1));
        refused("fits 5201", ARG, () -> x.fits(0, 5201));
        for (int i = 0; i < 4; i++) {
            x.say(0, i, i);
        }
        due("whole", x.score(1, 0), 22);
        due("fits what is whole", x.fits(0, 100), 2);
        due("right ones in all", x.count(9), 4);
    }

    private static void lacksAndGuess() {
        MemoryHouse x = new MemoryHouse();
        x.house(20);
        x.pack(0, 1, 4);
        x.pack(10, 1, 10);
        rule(x, "add 10 * right;less 3 * wrong");
        rule(x, "add 5 * wrong;add 2 * blank");
        rule(x, "add 900 if whole;less 10 * wrong");
        refused("lacks of no pack", OUT, () -> x.lacks(2, 0));
        MemoryHouse y = new MemoryHouse();
        y.house(20);
        y.pack(0, 1, 3);
        y.put(0, 0, 0, 1, 1);
        rule(y, "add 5");
        due("of several the least G", y.guess(0, 0, 0), 0);
        refused("lacks of one that is not put", STATE, () -> x.lacks(0, -9));
        refused("guess by no rule", OUT, () -> x.guess(3, 0, 9));
        refused("guess of no pack", OUT, () -> x.guess(0, 2, 9));
        refused("guess of one that is not put", STATE, () -> x.guess(0, 0, 9));
        x.put(0, 0, 0, 1, 1);
        x.put(1, 0, 4, 1, 1);
        due("lacks all", x.lacks(0, -1), 4);
        due("the last of them", x.lacks(0, 3), 3);
        due("no more", x.lacks(0, 4), NONE);
        due("far more", x.lacks(0, Integer.MAX_VALUE), NONE);
        refused("lacks -2", ARG, () -> x.lacks(0, -2));
        refused("guess 3", NOSUCH, () -> x.guess(0, 0, 3));
        refused("guess -1", NOSUCH, () -> x.guess(0, 0, -1));
        x.say(0, 0, 2);
        x.say(0, 1, 30);
        // blanks are 2, 3; lacks 0, 1, 3: the blank 2 can never be guessed, 3 by one of three
        due("lacks 3", x.lacks(0, -1), 3);
        due("the first one", x.lacks(0, 0), 0);
        due("the third one", x.lacks(0, 2), 3);
        // now -6; G 1: -9; G 2: -12 and 13 by a third, -23/3
        due("guess none", x.guess(0, 0, 0), 0);
        due("what that is", x.guess(0, 0, 1), -6);
        due("by one", x.guess(0, 0, 2), 1);
        // now 10 + 4; G 1: 15 + 2; G 2: 20 less 5 by a third
        due("guess two", x.guess(1, 0, 0), 2);
        due("above", x.guess(1, 0, 1), 55);
        due("below", x.guess(1, 0, 2), 3);
        for (int i = 0; i < 4; i++) {
            x.say(0, i, i);
        }
        due("lacks none", x.lacks(0, -1), 0);
        due("no first one", x.lacks(0, 0), NONE);
        due("nothing to guess", x.guess(1, 0, 0), 0);
        due("900 then", x.guess(2, 0, 1), 900);
        x.say(0, 3, NONE);
        due("one blank, one lacking", x.guess(2, 0, 0), 1);
        due("900 again", x.guess(2, 0, 1), 900);
        x.say(0, 2, NONE);
        // two ways: whole, or two wrong: (900 - 20) / 2
        due("two blanks", x.guess(2, 0, 0), 2);
        due("440", x.guess(2, 0, 1), 440);
        // pack 1: ten blanks, but the first 6 cards alone are guessed of, and 5 blanks at most get one
        due("G is 5 at most", x.guess(1, 1, 0), 5);
        // 5 blanks stay: 10; each of 5 is right by a sixth: 5 * 5 * 5/6 are 125/6
        due("above 185", x.guess(1, 1, 1), 185);
        due("below 6", x.guess(1, 1, 2), 6);
        // by rule 0 a guess is worth 10/6 - 15/6 < 0
        due("none by rule 0", x.guess(0, 1, 0), 0);
        for (int i = 0; i < 6; i++) {
            x.say(1, i, 40);
        }
        // blanks are cards 16 to 19, the first 6 that lack are 10 to 15: no guess is right
        due("four wrong ones are best", x.guess(1, 1, 0), 4);
        due("50", x.guess(1, 1, 1), 50);
        due("by 1", x.guess(1, 1, 2), 1);
    }

    private static void again() {
        MemoryHouse x = new MemoryHouse();
        x.house(20);
        x.pack(0, 1, 3);
        x.pack(0, 1, 3);
        law(x, "add 90;less 1 * age");
        law(x, "add 50;add 10 * gone if gone < 3;less 30 if gone > 2");
        law(x, "add 90;less 1 * age;less 3 * gone");
        refused("moment 0", ARG, () -> x.moment(0));
        refused("moment -1", ARG, () -> x.moment(-1));
        refused("moment 100000", ARG, () -> x.moment(100000));
        refused("again of one that is not put", STATE, () -> x.again(0, 0, -1, -1, false));
        refused("again by no law", OUT, () -> x.again(3, 0, -1, -1, false));
        refused("again of no pack", OUT, () -> x.again(0, 2, -1, -1, false));
        x.put(0, 0, 0, 1, 1);
        due("without moments", x.again(0, 0, 6, 99999, false), 0);
        due("nothing gained", x.again(0, 0, 6, 99999, true), 0);
        due("moment", x.moment(100), 1);
        refused("the same moment", ARG, () -> x.moment(100));
        due("moment 2", x.moment(200), 2);
        due("moment 3", x.moment(300), 3);
        due("moments are counted", x.count(8), 3);
        refused("most -1", ARG, () -> x.again(0, 0, -1, 300, false));
        refused("end ahead of the last", ARG, () -> x.again(0, 0, 1, 299, false));
        refused("end 100000", ARG, () -> x.again(0, 0, 1, 100000, false));
        // by law 0 the last moment is what counts, and one alone is the fewest
        due("the last one", x.again(0, 0, 3, 300, false), 4);
        // ages without: 303, 302, 301 seconds: 30 each; with: 0
        due("gain 90", x.again(0, 0, 3, 300, true), 90);
        due("most 0", x.again(0, 0, 0, 300, false), 0);
        due("gain of most 0", x.again(0, 0, 0, 300, true), 0);
        // by law 1 two of them, the least bits
        due("two", x.again(1, 0, 6, 400, false), 3);
        due("gain 60", x.again(1, 0, 6, 400, true), 60);
        due("at most one", x.again(1, 0, 1, 400, false), 1);
        // by law 2 each costs 3: the last one alone; at 300: 90 - 9
        due("the last one again", x.again(2, 0, 6, 300, false), 4);
        due("gain 81", x.again(2, 0, 6, 300, true), 81);
        due("nothing is changed", x.about(0, 0, 3), 0);
        x.moment(400);
        x.moment(500);
        due("moment 6", x.moment(99999), 6);
        refused("a moment behind the last that can be", ARG, () -> x.moment(99999));
        due("moments put away", x.moments(), 6);
        due("none then", x.moments(), 0);
        due("a first one again", x.moment(1), 1);
        for (int k = 2; k <= 6; k++) {
            x.moment(k);
        }
        refused("a seventh", UNSUP, () -> x.moment(7));
        refused("a seventh that does not rise", ARG, () -> x.moment(6));
        due("end at the last moment", x.again(0, 0, 1, 6, false), 0);
    }

    private static void housesNeeded() {
        MemoryHouse x = new MemoryHouse();
        law(x, "add 90;less 10 * old");
        law(x, "add 10 * seconds;add 10 * per;add 50 if dull + like + age + gone + role > 0 or first or last");
        law(x, "less 1;add 1 * old");
        due("10 packs, 2 ahead of the last", x.houses(0, 10, 1, 70), 4);
        due("10 packs, none ahead", x.houses(0, 10, 1, 90), 10);
        due("one pack", x.houses(0, 1, 1, 90), 1);
        due("never", x.houses(0, 1, 1, 91), NONE);
        due("20 packs", x.houses(0, 20, 1, 90), 20);
        due("21 packs: one is ahead in 20", x.houses(0, 21, 1, 90), NONE);
        due("21 packs, 80", x.houses(0, 21, 1, 80), 11);
        due("60 packs, 0", x.houses(0, 60, 60, 0), 1);
        due("seconds and per", x.houses(1, 60, 6, 90), 1);
        due("seconds and per, no more", x.houses(1, 60, 6, 91), NONE);
        due("100 at most", x.houses(1, 60, 60, 100), 1);
        due("0 at least", x.houses(2, 1, 60, 0), 1);
        refused("no law", OUT, () -> x.houses(3, 0, 0, 0));
        refused("0 packs", ARG, () -> x.houses(0, 0, 1, 0));
        refused("61 packs", ARG, () -> x.houses(0, 61, 1, 0));
        refused("0 seconds", ARG, () -> x.houses(0, 1, 0, 0));
        refused("61 seconds", ARG, () -> x.houses(0, 1, 61, 0));
        refused("-1 hundredths", ARG, () -> x.houses(0, 1, 1, -1));
        refused("101 hundredths", ARG, () -> x.houses(0, 1, 1, 101));
    }

    private static void unlike() {
        MemoryHouse x = new MemoryHouse();
        due("without houses", x.unlike(-1, false), 0);
        due("no pairs", x.unlike(-1, true), 0);
        x.house(3);
        x.house(4);
        due("house 0", x.unlike(1, false), 3);
        due("both", x.unlike(3, false), 4);
        due("pairs of both", x.unlike(3, true), 3);
        due("other bits count for nothing", x.unlike(-1, false), 4);
        due("nor here", x.unlike(Integer.MIN_VALUE, true), 0);
        x.look(0, 1, 0);
        x.look(0, 2, 0);
        due("all alike", x.unlike(1, false), 1);
        due("three pairs", x.unlike(1, true), 3);
        due("six pairs", x.unlike(3, true), 6);
    }

    private static void per() {
        MemoryHouse x = new MemoryHouse();
        x.house(20);
        x.house(2);
        x.house(1);
        x.pack(0, 1, 6);
        x.pack(0, 1, 6);
        x.pack(0, 1, 6);
        law(x, "add 10 * seconds;less 5 * role");
        law(x, "add 50;less 10 * old;less 1 * age;less 7 * gone;less 3 * like");
        refused("no law", OUT, () -> x.per(2, 0, 0, 0, false));
        refused("no pack", OUT, () -> x.per(0, 3, 0, 0, false));
        refused("no house", OUT, () -> x.per(0, 0, 3, 0, false));
        refused("0 seconds", ARG, () -> x.per(0, 0, 0, 0, false));
        refused("10000 seconds", ARG, () -> x.per(0, 0, 0, 10000, false));
        // 6 places: 1 second each; 3: 2, less 5 for the what; 2: 3, less 5, less 10
        due("6 seconds", x.per(0, 0, 0, 6, false), 3);
        due("sum of that", x.per(0, 0, 0, 6, true), 30 + 25 + 20 + 30 + 25 + 20);
        due("5 seconds, 1 for each of 3, 2 for each of 2", x.per(0, 0, 0, 5, true), 20 + 15 + 10 + 20 + 15 + 10);
        due("1 second is for nobody", x.per(0, 0, 0, 1, false), NONE);
        due("nor a sum", x.per(0, 0, 0, 1, true), NONE);
        due("60 seconds at most", x.per(0, 0, 0, 9999, false), 1);
        due("all hold", x.per(0, 0, 0, 9999, true), 600);
        due("room for 3 to a place alone", x.per(0, 0, 1, 60, false), 3);
        due("a second for each of two", x.per(0, 0, 1, 2, true), 10 + 5 + 10 + 5);
        due("no room", x.per(0, 0, 2, 60, false), NONE);
        due("several: the least", x.per(1, 0, 0, 60, false), 1);
        x.put(1, 0, 0, 2, 60);
        x.put(0, 0, 0, 1, 60);
        x.go(0, 60);
        // other packs are at doors 0, 1, 2: pack 1
        due("old: others that are put, sum by 1", x.per(1, 0, 0, 60, true), 270);
        due("and it is the least of the best", x.per(1, 0, 0, 60, false), 1);
        // of pack 1 the other is pack 0, at all six doors
        due("also such as were put later", x.per(1, 1, 0, 60, true), 240);
        // of pack 2 both: doors 0 to 2 twice, 3 to 5 once: 3 * 30 + 3 * 40
        due("all of them", x.per(1, 2, 0, 60, true), 210);
        for (int door = 0; door < 6; door++) {
            x.look(0, door, 5);
        }
        // like 5, 2, 1 by per 1, 2, 3: pack 2: 210 - 90; 6 * 30 - 36; 6 * 30 - 18
        due("like counts the places by that per", x.per(1, 2, 0, 60, false), 3);
        due("sum by it", x.per(1, 2, 0, 60, true), 162);
    }

    private static void plan() {
        MemoryHouse x = new MemoryHouse();
        law(x, "add 50;less 10 * old;add 3 * seconds;less 7 * dull;less 9 * age;less 9 * gone");
        for (int k = 0; k < 6; k++) {
            x.pack(10 * k % 52, 1, 3);
        }
        refused("no law", OUT, () -> x.plan(1, -1, 0, 0, 0));
        refused("no pack asked for", OUT, () -> x.plan(0, 1, 1, 1, 6));
        refused("pack -2 asked for", OUT, () -> x.plan(0, 1, 1, 1, -2));
        refused("no such pack in the set", ARG, () -> x.plan(0, 64, 1, 1, 0));
        refused("the highest bit", ARG, () -> x.plan(0, Integer.MIN_VALUE, 1, 1, 0));
        refused("six", ARG, () -> x.plan(0, 63, 1, 1, 0));
        refused("per 0", ARG, () -> x.plan(0, 1, 0, 1, 0));
        refused("per 4", ARG, () -> x.plan(0, 1, 4, 1, 0));
        refused("seconds 0", ARG, () -> x.plan(0, 1, 1, 0, 0));
        refused("seconds 61", ARG, () -> x.plan(0, 1, 1, 61, 0));
        due("no houses", x.plan(0, 1, 1, 1, NONE), NONE);
        due("no house for it", x.plan(0, 1, 1, 1, 0), NONE);
        due("an empty set", x.plan(0, 0, 1, 1, NONE), 0);
        due("of the empty set", x.plan(0, 0, 1, 1, 0), NONE);
        x.house(2);
        x.house(3);
        x.house(3);
        due("room in house 1", x.plan(0, 1, 1, 2, 0), 1);
        due("its sum", x.plan(0, 1, 1, 2, NONE), 168);
        due("two packs", x.plan(0, 3, 1, 2, NONE), 336);
        due("the first one to the least house", x.plan(0, 3, 1, 2, 0), 1);
        due("the second one then", x.plan(0, 3, 1, 2, 1), 2);
        due("not of the set", x.plan(0, 3, 1, 2, 2), NONE);
        due("three packs, two houses with room", x.plan(0, 7, 1, 2, NONE), NONE);
        due("nor a house", x.plan(0, 7, 1, 2, 0), NONE);
        due("three packs, two to a place", x.plan(0, 7, 2, 2, NONE), 3 * 168);
        // pack 5 at house 1, door 0 alone (3 to a place): old there
        x.put(5, 1, 0, 3, 60);
        due("house 1 is worse now", x.plan(0, 1, 1, 2, 0), 2);
        due("old at its first door alone", x.plan(0, 3, 1, 2, NONE), 168 + 158);
        due("first pack the least house of the best", x.plan(0, 3, 1, 2, 0), 1);
        refused("one that is put", ARG, () -> x.plan(0, 32, 1, 1, 0));
        // pack 1 is so dull that it holds 0 at any house: pack 0 takes the better one
        x.dull(10, 0, 9);
        x.dull(11, 0, 9);
        x.dull(12, 0, 9);
        due("the better house for whom it helps", x.plan(0, 3, 1, 2, 0), 2);
        due("the other one for the dull one", x.plan(0, 3, 1, 2, 1), 1);
        due("sum", x.plan(0, 3, 1, 2, NONE), 168);
        due("nothing was put", x.count(3), 1);
        due("nor later", x.count(4), 60);
    }

    private static void last() {
        MemoryHouse x = new MemoryHouse();
        x.house(20);
        x.pack(0, 1, 3);
        x.pack(0, 1, 3);
        x.pack(0, 1, 4);
        x.pack(0, 1, 3);
        law(x, "add 60;less 1 * age if age < 20");
        law(x, "add 1 * age");
        due("none is put", x.last(0, 15, 10), NONE);
        x.put(0, 0, 0, 3, 1);
        x.put(1, 0, 1, 3, 1);
        x.put(2, 0, 2, 1, 1);
        due("no bits", x.last(0, 0, 10), NONE);
        due("one that is not put", x.last(0, 8, 10), NONE);
        due("bits of none", x.last(0, -8, 10), NONE);
        due("they count for nothing", x.last(0, -4, 10), 2);
        // the clock is 6: pack 0 and 1 were put at 0 and 1, pack 2 at 2 to 5; 10 later each loses 1 a card
        due("of several the least", x.last(0, 7, 10), 0);
        due("of two", x.last(0, 6, 10), 1);
        due("none lose in no time", x.last(0, 7, 0), 0);
        // 4 later the ages are 1, 0 and 0: pack 0 alone loses
        due("4 later", x.last(0, 7, 4), 1);
        // by law 1 they gain: the most is the least loss
        due("one with more cards gains more", x.last(1, 7, 1000), 2);
        refused("no law", OUT, () -> x.last(2, 0, -1));
        refused("-1 seconds", ARG, () -> x.last(0, 0, -1));
        refused("10000 seconds", ARG, () -> x.last(0, 0, 10000));
        due("9999 seconds", x.last(0, 4, 9999), 2);
        due("the clock stands", x.count(4), 6);
    }

    private static void risk() {
        MemoryHouse x = new MemoryHouse();
        due("0 are sure", x.risk(0, false), 1);
        due("wholly", x.risk(0, true), 1000000000000L);
        due("nothing is", x.risk(1, true), 0);
        due("the least then", x.risk(6, false), 1);
        refused("-1", ARG, () -> x.risk(-1, true));
        refused("7", ARG, () -> x.risk(7, true));
        refused("0 tried", ARG, () -> x.chance(0, 1));
        refused("7 tried", ARG, () -> x.chance(7, 1));
        refused("chance -1", ARG, () -> x.chance(1, -1));
        refused("chance 101", ARG, () -> x.chance(1, 101));
        x.chance(6, 50);
        due("six of six", x.risk(6, true), 15625000000L);
        due("by six", x.risk(6, false), 6);
        due("three of six: 42 of 64", x.risk(3, true), 656250000000L);
        x.chance(3, 90);
        // 729 of 1000 are more
        due("three of three", x.risk(3, true), 729000000000L);
        due("by three", x.risk(3, false), 3);
        x.chance(1, 99);
        // three tried: 1 less 1 of 1000
        due("one of three", x.risk(1, true), 999000000000L);
        x.chance(1, 100);
        due("one of one", x.risk(1, false), 1);
        x.chance(2, 100);
        due("the least of several", x.risk(1, false), 1);
        x.chance(1, 0);
        due("a chance of 0 again", x.risk(1, false), 2);
        due("two of two", x.risk(2, false), 2);
        due("wholly too", x.risk(2, true), 1000000000000L);
    }

    private static void weeks() {
        MemoryHouse x = new MemoryHouse();
        due("all rates without weeks", x.rates(5, 0), 101);
        due("the least", x.rates(5, 1), 0);
        due("the greatest", x.rates(5, 2), 100);
        due("no next week", x.rates(5, 3), NONE);
        due("none at most", x.rates(5, 4), NONE);
        refused("week -1", ARG, () -> x.week(-1));
        refused("week 10000", ARG, () -> x.week(10000));
        refused("goal -1", ARG, () -> x.rates(-1, 9));
        refused("goal 10000", ARG, () -> x.rates(10000, 9));
        refused("what -1", NOSUCH, () -> x.rates(0, -1));
        refused("what 5", NOSUCH, () -> x.rates(9999, 5));
        due("a week", x.week(100), 1);
        due("all rates by one week", x.rates(300, 0), 101);
        due("next week at least", x.rates(300, 3), 100);
        due("at most", x.rates(300, 4), 300);
        due("a goal below: at least", x.rates(50, 3), 50);
        due("a goal below: at most", x.rates(50, 4), 100);
        x.week(97);
        // goal 95: 100 less rate times 5 by 100, rounded down: 96 to 98: rate above 20, to 80
        due("rates downwards", x.rates(95, 0), 60);
        due("the least", x.rates(95, 1), 21);
        due("the greatest", x.rates(95, 2), 80);
        // 97 less: rate times 2 by 100, rounded down: 21: -1; 80: -2
        due("next at least", x.rates(95, 3), 95);
        due("next at most", x.rates(95, 4), 96);
        due("a goal of 9999", x.rates(9999, 0), 0);
        due("a goal of 0: rates 2 to 4", x.rates(0, 0), 3);
        due("none go down to 97 towards 300", x.rates(300, 0), 0);
        due("no least", x.rates(300, 1), NONE);
        due("no greatest", x.rates(300, 2), NONE);
        due("no next", x.rates(300, 3), NONE);
        due("nor this", x.rates(300, 4), NONE);
        for (int k = 3; k <= 20; k++) {
            due("week " + k, x.week(97), k);
        }
        due("weeks", x.count(7), 20);
        // 97 stays: 97 less 2 rate by 100 is 96 to 98: rate at most 50
        due("all steps count", x.rates(95, 0), 30);
        refused("week 21", UNSUP, () -> x.week(1));
        refused("week 21 of none", ARG, () -> x.week(-1));
    }

    private static void dullest() {
        MemoryHouse y = new MemoryHouse();
        y.house(1);
        y.pack(50, 1, 3);
        y.put(0, 0, 0, 3, 1);
        due("card 0 is the least", y.dullest(), 0);
        due("a week of 9999", y.week(9999), 1);
        due("a week of 0", y.week(0), 2);
        MemoryHouse x = new MemoryHouse();
        x.house(20);
        x.pack(10, 1, 3);
        x.pack(11, 1, 3);
        x.pack(12, 1, 3);
        x.pack(0, 1, 3);
        due("none is put", x.dullest(), NONE);
        for (int k = 0; k < 3; k++) {
            x.put(k, 0, 3 * k, 1, 1);
        }
        due("all blank: the least", x.dullest(), 10);
        x.say(0, 0, 10);
        due("10 is right", x.dullest(), 11);
        x.say(0, 1, 11);
        // 11: 1 of 2; 12: 3 of 3
        due("as fractions", x.dullest(), 12);
        x.say(1, 1, 12);
        // 12: 2 of 3; 13: 2 of 2; 14: 1 of 1
        due("13 of two", x.dullest(), 13);
        x.say(1, 2, 13);
        due("14 of one", x.dullest(), 14);
        x.say(2, 2, 14);
        // 11: 1 of 2; 12: 2 of 3; 13: 1 of 2
        due("2 of 3", x.dullest(), 12);
        x.say(0, 2, 12);
        // 11: 1 of 2; 12: 1 of 3; 13: 1 of 2
        due("the least of 11 and 13", x.dullest(), 11);
        x.say(1, 0, 11);
        x.say(2, 1, 5);
        due("wrong ones count", x.dullest(), 13);
        x.say(2, 1, 13);
        due("12 is left", x.dullest(), 12);
        x.say(2, 0, 12);
        due("all are right", x.dullest(), NONE);
    }

    private static void change() {
        MemoryHouse x = new MemoryHouse();
        x.house(20);
        x.pack(10, 1, 4);
        x.pack(11, 1, 4);
        law(x, "add 50;less 5 * dull");
        law(x, "add 50;add 5 * dull");
        law(x, "add 50;less 20 * dull");
        refused("no law", OUT, () -> x.change(3));
        due("none is put", x.change(0), NONE);
        x.put(0, 0, 0, 2, 1);
        due("all dull alike", x.change(0), NONE);
        x.dull(13, 1, 4);
        // 13 is the what of place 1: with the row of card 0 it holds 20 more
        due("with the first card", x.change(0), 13);
        // dull raises by law 1: the row of 13 for a what of pack 0; 13 has it already, 11 could get it: no gain
        due("no gain by law 1", x.change(1), NONE);
        x.dull(11, 1, 7);
        due("the one that gains more", x.change(0), 11);
        x.dull(0, 1, 7);
        x.dull(1, 1, 6);
        due("with the least dull one, lesser first", x.change(0), 52 * 2 + 11);
        x.put(1, 0, 4, 2, 1);
        // pack 1 has 11 12 13 14: 12 and 14 are whats there; 11 is a what once, a who once
        due("both packs", x.change(0), 52 * 2 + 11);
        x.dull(12, 1, 5);
        x.dull(12, 0, 8);
        // 12: who in pack 0, what in pack 1: 8 * 5 and 5 * 5 are 65; 11: 35
        due("two roles", x.change(0), 52 * 2 + 12);
        // by law 2 what is above 2 is all the same: 11, 12 (twice), 13 lose 50 each by dull
        due("0 at least", x.change(2), 52 * 2 + 12);
        for (int card = 0; card < 52; card++) {
            for (int role = 0; role < 3; role++) {
                x.dull(card, role, 0);
            }
        }
        x.dull(40, 2, 9);
        due("a role that no one has", x.change(0), NONE);
        x.dull(40, 0, 9);
        // by law 1 it is good to be dull: 10 is the first who
        due("more dull by law 1", x.change(1), 52 * 10 + 40);
    }

    private static void image() {
        MemoryHouse x = new MemoryHouse();
        due("none was kept", x.back(), false);
        x.house(5);
        x.pack(0, 1, 3);
        x.pack(10, 1, 3);
        law(x, "add 10");
        rule(x, "add 1");
        x.put(0, 0, 0, 3, 5);
        x.say(0, 0, 0);
        x.moment(10);
        x.week(7);
        x.chance(1, 40);
        x.dull(3, 0, 4);
        x.image();
        x.house(5);
        x.pack(20, 1, 3);
        law(x, "add 20");
        rule(x, "add 2");
        x.put(1, 0, 1, 3, 5);
        x.go(0, 5);
        x.say(0, 0, NONE);
        x.say(0, 1, 1);
        x.moments();
        x.week(8);
        x.chance(1, 50);
        x.dull(3, 0, 5);
        x.look(0, 1, 0);
        write(x, "bad");
        refused("a bad text", ARG, x::law);
        write(x, "add 30");
        due("back", x.back(), true);
        int[] want = {1, 5, 2, 1, 5, 1, 1, 1, 1, 1};
        for (int what = 0; what <= 9; what++) {
            due("count " + what + " as it was", x.count(what), want[what]);
        }
        due("the fault stays", x.fault(), 0);
        due("the tape stays", x.end(6), true);
        due("a law of it", x.law(), 1);
        due("its own text", x.awaited(1, 0), 90);
        due("the first one's too", x.awaited(0, 0), 30);
        due("never gone", x.go(0, 1), 1);
        due("not put", x.put(1, 0, 1, 3, 5), 1);
        due("dull as it was", x.dull(3, 0, 0), 4);
        due("chance as it was", x.risk(1, true), 400000000000L);
        due("look as it was", x.unlike(1, false), 5);
        due("moment as it was", x.moment(11), 2);
        due("said as it was", x.kind(0, 0), 0);
        due("not said as it was", x.kind(0, 1), 1);
        due("back once more", x.back(), true);
        due("one law", x.count(5), 1);
        due("the image is one by itself", x.dull(3, 0, 0), 4);
        x.image();
        x.dull(3, 0, 8);
        x.back();
        due("the later image", x.dull(3, 0, 0), 0);
    }

    private static void throwsChangeNothing() {
        MemoryHouse x = new MemoryHouse();
        x.house(3);
        x.pack(0, 1, 3);
        law(x, "add 10");
        x.put(0, 0, 0, 1, 1);
        x.feed(1, 1, 1, 1, 1);
        refused("say", OUT, () -> x.say(0, 0, 99));
        refused("run", OUT, () -> x.run(9, 0, 1));
        refused("go", ARG, () -> x.go(0, 99));
        refused("look", ARG, () -> x.look(0, 0, 99));
        due("the tape stays", x.end(20), true);
        due("blank", x.kind(0, 0), 1);
        due("the clock", x.count(4), 3);
        due("never gone", x.go(0, 1), 1);
        due("looks", x.unlike(1, false), 3);
    }
}
