import java.util.ArrayList;
import java.util.List;
import java.util.function.BiConsumer;
import java.util.function.LongSupplier;
import java.util.function.Supplier;

/**
 * All that can be seen of an object. Some of it is seen only by calls that change it, and an object has 512 calls
 * alone, so each part is read from an object of its own that was made in the same way.
 */
final class Whole {
    private static final int CARDS_LOOKED_AT = 8;
    private static final List<BiConsumer<MemoryHouse, List<String>>> PARTS = List.of(Whole::counts, Whole::cards,
            Whole::about, Whole::table, Whole::looks, Whole::holds, Whole::sayings, Whole::chances, Whole::weeks,
            Whole::moments, Whole::packsPutThen);

    private Whole() {
    }

    static List<String> of(Supplier<MemoryHouse> made, boolean withFault) {
        List<String> seen = new ArrayList<>();
        for (BiConsumer<MemoryHouse, List<String>> part : PARTS) {
            part.accept(made.get(), seen);
            MemoryHouse image = made.get();
            if (image.back()) {
                seen.add("THE IMAGE:");
                part.accept(image, seen);
            }
        }
        tapeAsLaw(made.get(), seen);
        tapeAsRule(made.get(), seen);
        if (withFault) {
            see(seen, "fault", made.get()::fault);
        }
        return seen;
    }

    private static void see(List<String> seen, String what, LongSupplier call) {
        try {
            seen.add(what + " is " + call.getAsLong());
        } catch (RuntimeException e) {
            seen.add(what + " throws " + e.getClass().getSimpleName());
        }
    }

    private static void counts(MemoryHouse x, List<String> seen) {
        for (int what = 0; what <= 9; what++) {
            int which = what;
            see(seen, "count " + what, () -> x.count(which));
        }
        see(seen, "dullest", x::dullest);
    }

    private static void cards(MemoryHouse x, List<String> seen) {
        for (int pack = 0; pack < x.count(2); pack++) {
            int which = pack;
            for (int i = 0; i < CARDS_LOOKED_AT; i++) {
                int place = i;
                see(seen, "card " + i + " of pack " + pack, () -> x.card(which, place));
                see(seen, "kind of card " + i + " of pack " + pack, () -> x.kind(which, place));
            }
        }
    }

    private static void about(MemoryHouse x, List<String> seen) {
        for (int pack = 0; pack < x.count(2); pack++) {
            int which = pack;
            for (int i = 0; i < CARDS_LOOKED_AT && isThere(x, pack, i); i++) {
                int place = i;
                for (int what = 0; what <= 7; what++) {
                    int asked = what;
                    see(seen, "about " + pack + " " + i + " " + what, () -> x.about(which, place, asked));
                }
            }
        }
    }

    private static boolean isThere(MemoryHouse x, int pack, int i) {
        try {
            x.card(pack, i);
            return true;
        } catch (IndexOutOfBoundsException e) {
            return false;
        }
    }

    private static void table(MemoryHouse x, List<String> seen) {
        for (int card = 0; card < 52; card++) {
            for (int role = 0; role < 3; role++) {
                seen.add("card " + card + " as " + role + " is dull " + x.dull(card, role, 0));
            }
        }
    }

    /** A door's look is not told: but each that gets look 0 leaves its pairs, and makes others. */
    private static void looks(MemoryHouse x, List<String> seen) {
        for (int house = 0; house < x.count(0); house++) {
            boolean more = true;
            for (int door = 0; door < 20 && more; door++) {
                seen.add("pairs of house " + house + " are " + x.unlike(1 << house, true) + " by door " + door);
                try {
                    x.look(house, door, 0);
                } catch (IndexOutOfBoundsException e) {
                    more = false;
                }
            }
        }
    }

    private static void holds(MemoryHouse x, List<String> seen) {
        for (int law = 0; law < x.count(5); law++) {
            int by = law;
            for (int pack = 0; pack < x.count(2); pack++) {
                int which = pack;
                see(seen, "awaited " + law + " " + pack, () -> x.awaited(by, which));
                see(seen, "card 1 holds " + law + " " + pack, () -> x.holds(by, which, 1));
            }
            see(seen, "change " + law, () -> x.change(by));
            see(seen, "houses " + law, () -> x.houses(by, 7, 20, 50));
        }
    }

    private static void sayings(MemoryHouse x, List<String> seen) {
        for (int rule = 0; rule < x.count(6); rule++) {
            int by = rule;
            for (int pack = 0; pack < x.count(2); pack++) {
                int which = pack;
                see(seen, "score " + rule + " " + pack, () -> x.score(by, which));
                see(seen, "guess " + rule + " " + pack, () -> x.guess(by, which, 1));
            }
        }
        for (int pack = 0; pack < x.count(2); pack++) {
            int which = pack;
            see(seen, "lacks " + pack, () -> x.lacks(which, MemoryHouse.NONE));
            see(seen, "run of " + pack, () -> x.run(0, which, 5));
        }
    }

    /** So many whole of so many tried tell one chance by itself, when those of more are put to 0. */
    private static void chances(MemoryHouse x, List<String> seen) {
        for (int tried = 6; tried >= 1; tried--) {
            seen.add("all of " + tried + " whole: " + x.risk(tried, true));
            x.chance(tried, 0);
        }
    }

    private static void weeks(MemoryHouse x, List<String> seen) {
        for (int goal : new int[] {0, 10, 15, 20, 25, 30, 50, 100, 1000, 9999}) {
            for (int what = 0; what <= 4; what++) {
                seen.add("rates " + goal + " " + what + " are " + x.rates(goal, what));
            }
        }
    }

    private static void moments(MemoryHouse x, List<String> seen) {
        for (int most = 0; most <= 3; most++) {
            int so = most;
            for (int end : new int[] {29, 30, 89, 90, 200, 99999}) {
                see(seen, "again " + most + " " + end, () -> x.again(0, 0, so, end, false));
                see(seen, "its gain", () -> x.again(0, 0, so, end, true));
            }
        }
        seen.add("moments were " + x.moments());
    }

    /** What a pack that is not put has kept is seen when it is put. */
    private static void packsPutThen(MemoryHouse x, List<String> seen) {
        for (int pack = 0; pack < x.count(2); pack++) {
            int which = pack;
            see(seen, "places of pack " + pack, () -> x.put(which, 0, 0, 3, 1));
            see(seen, "blanks of pack " + pack, () -> x.kinds(which, 1));
            for (int i = 0; i < CARDS_LOOKED_AT; i++) {
                int place = i;
                see(seen, "said then for card " + i + " of pack " + pack, () -> x.about(which, place, 7));
                see(seen, "its age then", () -> x.about(which, place, 3));
            }
            see(seen, "awaited then of pack " + pack, () -> x.awaited(0, which));
            see(seen, "gone then, pack " + pack, () -> x.go(which, 1));
        }
    }

    private static void tapeAsLaw(MemoryHouse x, List<String> seen) {
        seen.add("the tape has " + tapeLength(x));
        see(seen, "as a law it", x::law);
        seen.add("its fault as a law " + x.fault());
        see(seen, "and awaited by it", () -> x.awaited(x.count(5) - 1, 0));
    }

    private static void tapeAsRule(MemoryHouse x, List<String> seen) {
        see(seen, "as a rule it", x::rule);
        seen.add("its fault as a rule " + x.fault());
    }

    /** Leaves the tape as it was. */
    private static int tapeLength(MemoryHouse x) {
        int length = x.feed(0, 0, 0, 0, 0) - 20;
        if (length >= 0) {
            x.end(length);
            return length;
        }
        length = 400;
        while (length > 380 && !x.end(length)) {
            length--;
        }
        return length;
    }
}
