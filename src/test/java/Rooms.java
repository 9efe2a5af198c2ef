/** Objects in states that calls are tried on. */
final class Rooms extends Check {
    private Rooms() {
    }

    /**
     * Something of all: houses of 12, 5 and 20 doors, packs 0, 1, 3 PUT and 2 not, two laws, two rules, a fault of 8,
     * a right text on the tape, and an image of another state.
     */
    static MemoryHouse rich() {
        MemoryHouse x = new MemoryHouse();
        x.house(12);
        x.house(5);
        x.look(0, 3, 2);
        x.look(1, 4, 0);
        x.pack(0, 1, 8);
        x.pack(30, 3, 5);
        law(x, "add 80;less 2 * age;less 5 * dull;less 7 * old if role < 2;add 3 * gone;less 4 * like");
        rule(x, "add 5 * right;less 2 * wrong;add 1 * blank");
        x.dull(1, 1, 4);
        x.dull(51, 2, 9);
        x.put(0, 0, 0, 3, 7);
        x.say(0, 0, 0);
        x.say(0, 1, 5);
        x.moment(30);
        x.week(10);
        x.chance(2, 40);
        x.image();
        x.house(20);
        x.pack(10, 1, 3);
        x.pack(20, 5, 7);
        law(x, "add 9 * seconds if first or last");
        rule(x, "add 100 if whole");
        x.dull(20, 0, 3);
        x.put(1, 0, 1, 2, 5);
        x.put(3, 1, 0, 2, 9);
        x.go(0, 4);
        x.say(1, 0, 30);
        x.say(1, 1, 5);
        x.say(3, 2, 9);
        x.moment(90);
        x.week(20);
        x.chance(6, 90);
        x.later(123);
        write(x, "add 5 if");
        after(() -> x, MemoryHouse::law);
        write(x, "add 7;less 1 * age if gone > 0");
        return x;
    }

    /** All that can be full is: houses, packs (each PUT), laws, rules, weeks, moments, the clock, the tape. */
    static MemoryHouse full() {
        MemoryHouse x = new MemoryHouse();
        for (int k = 0; k < 6; k++) {
            x.house(20);
        }
        for (int k = 0; k < 8; k++) {
            x.pack(6 * k, 7, 3 + k % 2);
            x.put(k, k / 2, k % 2, 1 + k % 3, 60);
        }
        for (int k = 0; k < 3; k++) {
            law(x, "add 90;less 1 * age;less 3 * old");
            rule(x, "add 3 * right");
        }
        for (int k = 1; k <= 20; k++) {
            x.week(100 - k);
        }
        for (int k = 1; k <= 6; k++) {
            x.moment(30 * k);
        }
        x.say(0, 1, 7);
        x.image();
        x.later(1000000 - x.count(4));
        feed(x, " ".repeat(395) + "add 5");
        return x;
    }

    /** A house of 20 doors and a pack of so many cards (0 and on) that is PUT from door 0 on. */
    static MemoryHouse one(int cards, int per, int seconds) {
        MemoryHouse x = new MemoryHouse();
        x.house(20);
        x.pack(0, 1, cards);
        x.put(0, 0, 0, per, seconds);
        return x;
    }
}
