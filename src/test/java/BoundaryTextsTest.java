import java.util.function.Consumer;
import java.util.function.Supplier;

/** The boundary cases of promises 1 to 6, a test for each sentence: a new object, the TAPE, texts and their faults. */
public final class BoundaryTextsTest extends Check {
    private static final String[] LAW_FACTS = {"seconds", "dull", "old", "like", "age", "gone", "per", "role"};
    private static final String[] LAW_TAGS = {"first", "last"};
    private static final String[] RULE_FACTS = {"right", "wrong", "blank", "cards"};
    private static final String[] RULE_TAGS = {"whole"};
    private static final String[] WORDS = {"add", "less", "if", "and", "or", "not", "seconds", "dull", "old", "like",
        "age", "gone", "per", "role", "first", "last", "right", "wrong", "blank", "cards", "whole"};

    public static void main(String[] args) {
        runByName(BoundaryTextsTest.class, 1, 6);
        finish();
    }

    private static MemoryHouse withTape(int length) {
        MemoryHouse x = new MemoryHouse();
        x.house(3);
        x.pack(0, 1, 3);
        x.put(0, 0, 0, 1, 1);
        feed(x, "add 7" + " ".repeat(395));
        x.end(length);
        return x;
    }

    /** A text read by an object throws so, uses its TAPE up, has that fault, and leaves all else as it was. */
    private static void refusedText(Supplier<MemoryHouse> from, Class<?> by, String text, boolean asLaw, int fault) {
        Consumer<MemoryHouse> read = asLaw ? MemoryHouse::law : MemoryHouse::rule;
        MemoryHouse x = from.get();
        write(x, text);
        refused("\"" + text + "\"", by, () -> read.accept(x));
        due("fault of \"" + text + "\"", x.fault(), fault);
        due("the tape of \"" + text + "\" is used up", x.end(1), false);
        Supplier<MemoryHouse> emptied = () -> {
            MemoryHouse y = from.get();
            y.end(0);
            return y;
        };
        Supplier<MemoryHouse> behind = () -> {
            MemoryHouse y = from.get();
            write(y, text);
            return after(() -> y, read);
        };
        same("\"" + text + "\"", Whole.of(emptied, false), Whole.of(behind, false));
    }

    /** What a law tells of the first of 3 cards, one to a place, 7 seconds each. */
    private static int told(String text) {
        MemoryHouse x = Rooms.one(3, 1, 7);
        law(x, text);
        return x.holds(0, 0, 0);
    }

    private static void bothFault(String text, int want) {
        lawFault(text, want);
        ruleFault(text, want);
    }

    // Promise 1

    static void promise01_noHouses() {
        due("houses", new MemoryHouse().count(0), 0);
        due("doors", new MemoryHouse().count(1), 0);
        refused(MemoryHouse::new, OUT, x -> x.look(0, 0, 0));
        due("the first house is 0", new MemoryHouse().house(1), 0);
    }

    static void promise01_noPacks() {
        due("packs", new MemoryHouse().count(2), 0);
        due("packs put", new MemoryHouse().count(3), 0);
        refused(MemoryHouse::new, OUT, x -> x.card(0, 0));
        refused(MemoryHouse::new, OUT, x -> x.go(0, 1));
        due("the first pack is 0", new MemoryHouse().pack(0, 1, 3), 0);
    }

    static void promise01_noLaws() {
        due("laws", new MemoryHouse().count(5), 0);
        refused(MemoryHouse::new, OUT, x -> x.change(0));
        refused(MemoryHouse::new, OUT, x -> x.houses(0, 1, 1, 0));
        refused(MemoryHouse::new, OUT, x -> x.last(0, 0, 0));
        due("the first law is 0", new MemoryHouse().law(), 0);
    }

    static void promise01_noRules() {
        due("rules", new MemoryHouse().count(6), 0);
        MemoryHouse x = Rooms.one(3, 1, 1);
        refused("a score by rule 0", OUT, () -> x.score(0, 0));
        due("the first rule is 0", new MemoryHouse().rule(), 0);
    }

    static void promise01_noWeeks() {
        due("weeks", new MemoryHouse().count(7), 0);
        due("the first week is 1 of them", new MemoryHouse().week(0), 1);
    }

    static void promise01_nothingElse() {
        MemoryHouse x = new MemoryHouse();
        due("clock", x.count(4), 0);
        due("moments", x.moments(), 0);
        due("right ones", x.count(9), 0);
        due("a tape without bytes", x.end(1), false);
        due("no fault", x.fault(), NONE);
        due("no image", x.back(), false);
        due("no chance", x.risk(1, true), 0);
        due("none is dullest", x.dullest(), NONE);
    }

    static void promise01_noCardIsDull() {
        MemoryHouse x = new MemoryHouse();
        for (int k = 0; k < 156; k++) {
            due("card " + k / 3 + " as " + k % 3, x.dull(k / 3, k % 3, 9), 0);
        }
    }

    static void promise01_oneObjectIsNotAnother() {
        MemoryHouse x = Rooms.rich();
        MemoryHouse y = new MemoryHouse();
        due("houses of the other", y.count(0), 0);
        due("tape of the other", y.end(1), false);
        y.dull(1, 1, 0);
        due("the table of the one", x.dull(1, 1, 4), 4);
    }

    // Promise 2

    static void promise02_feedTellsHowManyTheTapeHas() {
        MemoryHouse x = new MemoryHouse();
        for (int k = 1; k <= 20; k++) {
            due("feed " + k, x.feed(0, 0, 0, 0, 0), 20 * k);
        }
    }

    static void promise02_feedOfMoreThan400IsNone() {
        for (int length = 381; length <= 400; length++) {
            due("feed to " + length, withTape(length).feed(0, 0, 0, 0, 0), NONE);
        }
    }

    static void promise02_feedTo400Comes() {
        MemoryHouse x = withTape(380);
        due("feed to 380", x.feed(0, 0, 0, 0, 0), 400);
        due("all of them came", x.end(400), true);
    }

    static void promise02_aRefusedFeedBringsNone() {
        leaves(() -> withTape(381), x -> x.feed(-1, -1, -1, -1, -1));
        leaves(() -> withTape(400), x -> x.feed(-1, -1, -1, -1, -1));
        leaves(Rooms::full, x -> x.feed(0, 0, 0, 0, 0));
        MemoryHouse x = withTape(400);
        x.feed(-1, -1, -1, -1, -1);
        x.feed(-1, -1, -1, -1, -1);
        due("the full tape is still right", x.law(), 0);
    }

    static void promise02_bytesComeBehindWhatIsLeft() {
        MemoryHouse x = Rooms.one(3, 1, 7);
        feed(x, "add 12xxxxxxxxxxxxxx");
        x.end(5);
        due("behind 5", x.feed(0x33202020, 0x20202020, 0x20202020, 0x20202020, 0x20202020), 25);
        x.law();
        due("13", x.holds(0, 0, 0), 13);
    }

    static void promise02_theHighestByteIsTheFirst() {
        MemoryHouse x = new MemoryHouse();
        // "add " in each number but its bytes the other way round is no word at all
        x.feed(0x20646461, 0x37202020, 0x20202020, 0x20202020, 0x20202020);
        refused("bytes the other way round", ARG, x::law);
        due("dda", x.fault(), 1);
        x.feed(0x61646420, 0x312A6167, 0x653B6C65, 0x73733120, 0x6966206C);
        x.feed(0x61737420, 0x20202020, 0x20202020, 0x20202020, 0x202020FF);
        refused("the last byte of the last number", ARG, x::law);
        due("byte 39", x.fault(), 39);
    }

    static void promise02_aNumberBelow0IsFourBytesToo() {
        for (int k = 0; k < 20; k++) {
            int[] n = {0x20202020, 0x20202020, 0x20202020, 0x20202020, 0x20202020};
            n[k / 4] |= 0x80 << (24 - 8 * (k % 4));
            MemoryHouse x = new MemoryHouse();
            due("feed", x.feed(n[0], n[1], n[2], n[3], n[4]), 20);
            refused("byte 160 at " + k, ARG, x::law);
            due("fault", x.fault(), k);
        }
    }

    static void promise02_aTapeThatIsUsedUpBeginsAgain() {
        MemoryHouse x = withTape(400);
        x.law();
        due("behind a law", x.feed(0, 0, 0, 0, 0), 20);
        refused("a wrong law", ARG, x::law);
        due("behind a wrong one", x.feed(0, 0, 0, 0, 0), 20);
        refused("a wrong rule", ARG, x::rule);
        due("behind a wrong rule", x.feed(0, 0, 0, 0, 0), 20);
    }

    // Promise 3

    static void promise03_endOfAllAndOfNone() {
        due("all of 400", withTape(400).end(400), true);
        due("none of 400", withTape(400).end(0), true);
        due("none of none", new MemoryHouse().end(0), true);
        leaves(() -> withTape(400), x -> x.end(400));
        leaves(() -> withTape(0), x -> x.end(0));
    }

    static void promise03_endOfMoreThanThereAreIsFalse() {
        due("1 of none", new MemoryHouse().end(1), false);
        due("401 of 400", withTape(400).end(401), false);
        due("6 of 5", withTape(5).end(6), false);
        due("most of 5", withTape(5).end(Integer.MAX_VALUE), false);
        leaves(() -> withTape(5), x -> x.end(6));
        leaves(() -> withTape(400), x -> x.end(401));
        leaves(Rooms::rich, x -> x.end(Integer.MAX_VALUE));
    }

    static void promise03_endBelow0IsFalse() {
        due("-1 of none", new MemoryHouse().end(-1), false);
        due("-1 of 400", withTape(400).end(-1), false);
        due("least of 400", withTape(400).end(Integer.MIN_VALUE), false);
        leaves(() -> withTape(5), x -> x.end(-1));
        leaves(Rooms::rich, x -> x.end(Integer.MIN_VALUE));
    }

    static void promise03_theFirstBytesStay() {
        MemoryHouse x = Rooms.one(3, 1, 7);
        feed(x, "add 5;less 1");
        due("20 bytes", x.end(20), true);
        due("5 bytes", x.end(5), true);
        due("no longer 6", x.end(6), false);
        x.law();
        due("the first 5", x.holds(0, 0, 0), 5);
    }

    // Promise 4 and the texts of the terms

    static void promise04_anEmptyTextHasNoLine() {
        lawFault("", NONE);
        due("it tells nothing", told(""), 0);
        MemoryHouse x = new MemoryHouse();
        due("a law without a tape", x.law(), 0);
    }

    static void promise04_blanksAloneHaveNoLine() {
        lawFault(" ", NONE);
        lawFault(" ".repeat(400), NONE);
        due("they tell nothing", told("   "), 0);
    }

    static void promise04_numbersOfLaws() {
        MemoryHouse x = new MemoryHouse();
        for (int k = 0; k < 3; k++) {
            due("law " + k, law(x, "add " + k), k);
        }
        due("laws", x.count(5), 3);
        due("rules are others", rule(x, "add 1"), 0);
    }

    static void promise04_aFourthLaw() {
        refusedText(Rooms::full, UNSUP, "add 1", true, NONE);
        refusedText(Rooms::full, UNSUP, "", true, NONE);
    }

    static void promise04_aFourthLawThatIsWrongIsWrongFirst() {
        refusedText(Rooms::full, ARG, "add", true, 3);
        refusedText(Rooms::full, ARG, "add 1 if whole", true, 9);
    }

    static void promise04_aWrongTextChangesNothingElse() {
        refusedText(Rooms::rich, ARG, "add 1;less", true, 10);
        refusedText(Rooms::rich, ARG, "?", true, 0);
        refusedText(MemoryHouse::new, ARG, "add 1 * right", true, 8);
    }

    static void promise04_theTapeIsUsedUp() {
        MemoryHouse x = withTape(400);
        x.law();
        due("by a law", x.end(1), false);
        due("the next one is empty", x.law(), 1);
        due("and tells nothing", x.awaited(1, 0), 0);
    }

    static void promise04_threeLawsAgainBehindAnImage() {
        MemoryHouse x = new MemoryHouse();
        law(x, "add 1");
        x.image();
        law(x, "add 2");
        law(x, "add 3");
        x.back();
        due("law 1", law(x, "add 4"), 1);
        due("law 2", law(x, "add 5"), 2);
        refused("law 3", UNSUP, x::law);
    }

    static void promise04_tenLines() {
        lawFault("add 1;".repeat(9) + "less 1", NONE);
        due("each counts", told("add 1;".repeat(9) + "add 1"), 10);
        due("the tenth takes away", told("add 9;".repeat(9) + "less 8"), 73);
    }

    static void promise04_anEleventhLine() {
        lawFault("add 1;".repeat(10) + "add 1", 60);
        lawFault("add 1;".repeat(10) + "   less 1", 63);
        lawFault("add 1;".repeat(10) + "addd 1", 60);
        lawFault("add 1;".repeat(11), 60);
        lawFault("add 1;".repeat(20), 60);
        lawFault("add 1;".repeat(10), 60);
        lawFault("add 1;".repeat(10) + "  ", 62);
        lawFault("add 1;".repeat(9) + "add ;add 1", 58);
    }

    static void promise04_aLineMustStandBetweenTwoSemicolons() {
        lawFault(";", 0);
        lawFault("add 1;", 6);
        lawFault("add 1;;add 1", 6);
        lawFault(" ;add 1", 1);
        lawFault("add 1 ; ", 8);
    }

    static void promise04_numbersOfOneToThreeDigits() {
        for (String number : new String[] {"0", "00", "000", "9", "09", "99", "099", "999"}) {
            lawFault("add " + number, NONE);
            lawFault("add 1 if " + number + " < " + number, NONE);
        }
        due("0", told("add 0"), 0);
        due("9", told("add 9"), 9);
        due("09", told("add 09"), 9);
        due("99", told("add 99"), 99);
        due("100", told("add 100"), 100);
        due("999 less 900", told("add 999;less 900"), 99);
    }

    static void promise04_aNumberOfMoreDigits() {
        lawFault("add 1000", 4);
        lawFault("add 0000", 4);
        lawFault("add 12345 * age", 4);
        lawFault("add 1 if 0001 < 2", 9);
        lawFault("add 1 if 1 < 1000", 13);
        lawFault("add 1 if 1 + 1000 < 1", 13);
        lawFault("add " + "1".repeat(396), 4);
        lawFault("1000", 0);
    }

    static void promise04_twoNumbersBesideEachOther() {
        lawFault("add 1 2", 6);
        lawFault("add 1 if 1 1 < 2", 11);
        lawFault("add 1 if 1 < 2 2", 15);
    }

    static void promise04_sixDeep() {
        lawFault("add 1 if ((((((first))))))", NONE);
        lawFault("add 1 if not not not not not not first", NONE);
        lawFault("add 1 if not(not(not(first)))", NONE);
        lawFault("add 1 if (not (not (not first)))", NONE);
        lawFault("add 1 if ((((((1 < 2))))))", NONE);
        due("six times not", told("add 1 if not not not not not not first"), 1);
        due("five times not", told("add 1 if not not not not not first"), 0);
    }

    static void promise04_aSeventhDeep() {
        lawFault("add 1 if (((((((first)))))))", 15);
        lawFault("add 1 if not not not not not not not first", 33);
        lawFault("add 1 if not(not(not((first))))", 21);
        lawFault("add 1 if not(not(not(not first)))", 21);
        lawFault("add 1 if ((((((not first))))))", 15);
        lawFault("add 1 if ((((((first or not last))))))", 24);
        lawFault("add 1 if ((((((first and (last)))))))", 25);
        lawFault("add 1 if ((((((1 < 2 or (", 24);
        lawFault("add 1 if " + "(".repeat(391), 15);
        lawFault("add 1 if " + "not ".repeat(97), 33);
    }

    static void promise04_besideEachOtherIsNotDeeper() {
        lawFault("add 1 if ((((((first)))))) and ((((((last)))))) or ((((((first))))))", NONE);
        lawFault("add 1 if not not not not not not first and not not not not not not last", NONE);
        lawFault("add 1 if (((((first) or (last) and (first)))))", NONE);
        lawFault("add 1 if ((((((first))))));add 1 if ((((((first))))))", NONE);
        lawFault("add 1 if (((((not first or not last)))))", NONE);
        lawFault("add 1 if ((((((first)))))) and (((((((last)))))))", 37);
    }

    static void promise04_bracketsComeInPairs() {
        lawFault("add 1 if (first", 15);
        lawFault("add 1 if ((first)", 17);
        lawFault("add 1 if first)", 14);
        lawFault("add 1 if (first))", 16);
        lawFault("add 1 if ()", 10);
        lawFault("add 1 if )", 9);
        lawFault("add 1 if (first;add 1", 15);
    }

    static void promise04_aSumIsNotInBrackets() {
        lawFault("add 1 if (age) < 1", 13);
        lawFault("add 1 if (age + 1) < 1", 17);
        lawFault("add 1 if 1 < (age)", 13);
        lawFault("add 1 if 1 + (age) < 2", 13);
        lawFault("add 1 if not age", 16);
    }

    /** Each begin of a text that is right: where it is wrong if it ends there. */
    private static final String TEXT = "add 5 * age if not (first or age + 1 < 2) and last;less 3";
    private static final int[] ENDS = {NONE, 0, 0, 3, 4, NONE, NONE, 7, 8, 8, 8, NONE, NONE, 12, 14, 15, 15, 15, 18, 19,
        20, 20, 20, 20, 20, 25, 26, 26, 28, 29, 29, 29, 32, 33, 34, 35, 36, 37, 38, 39, 40, NONE, NONE, 42, 42, 45, 46,
        46, 46, 46, NONE, 51, 51, 51, 51, 55, 56, NONE};
    private static final int[] BEGINS = {0, 4, 6, 8, 12, 15, 19, 20, 26, 29, 33, 35, 37, 39, 40, 42, 46, 50, 51, 56};

    static void promise04_theLengthIfMoreMustCome() {
        for (int length = 0; length <= TEXT.length(); length++) {
            lawFault(TEXT.substring(0, length), ENDS[length]);
        }
        StringBuilder full = new StringBuilder("add 1 if 1<1");
        while (full.length() < 400) {
            full.append("+1");
        }
        lawFault(full.toString(), NONE);
        lawFault(full.substring(0, 399), 399);
        lawFault(full.substring(0, 398) + "+ ", 400);
    }

    static void promise04_theBeginOfWhatCannotStandThere() {
        for (int begin : BEGINS) {
            String ahead = TEXT.substring(0, begin);
            lawFault(ahead + "?", begin);
            lawFault(ahead + " 1234", begin + 1);
            lawFault(ahead + " xyz", begin + 1);
            lawFault(ahead + "  " + (char) 255 + " add 5", begin + 2);
        }
    }

    static void promise04_theFirstOfSeveralWrongThings() {
        lawFault("add 1 if whole and (((((((1234", 9);
        lawFault("add 1234 * whole", 4);
        lawFault("les 1;ad 1", 0);
    }

    static void promise04_aWordThatIsNone() {
        lawFault("ad 5", 0);
        lawFault("addd 5", 0);
        lawFault("lesser 5", 0);
        lawFault("les 5", 0);
        lawFault("add 5 * ag", 8);
        lawFault("add 5 * ages", 8);
        lawFault("add 5 * second", 8);
        lawFault("add 5 fi first", 6);
        lawFault("add 5 if firs", 9);
        lawFault("add 5 if firstly", 9);
        lawFault("add 5 if lastt", 9);
        lawFault("add 5 if nota", 9);
        lawFault("add 5 if first an last", 15);
        lawFault("add 5 if first andd last", 15);
        lawFault("add 5 if first orr last", 15);
        lawFault("a".repeat(400), 0);
    }

    static void promise04_zIsTheLastLetter() {
        lawFault("addz 5", 0);
        lawFault("add 5 * agez", 8);
        lawFault("zadd 5", 0);
        lawFault("add 5 z", 6);
    }

    /** A word that breaks off where a tape of 400 ends is none, unless it is one. */
    static void promise04_wordsAtTheEndOfAFullTape() {
        for (String word : WORDS) {
            for (int length = 1; length <= word.length(); length++) {
                String part = word.substring(0, length);
                boolean begins = part.equals("add") || part.equals("less");
                bothFault(" ".repeat(400 - length) + part, begins ? 400 : 400 - length);
                bothFault("add 5" + " ".repeat(395 - length) + part, part.equals("if") ? 400 : 400 - length);
            }
        }
        for (int length = 1; length <= 5; length++) {
            String text = "add 5 if " + "first".substring(0, length);
            lawFault(" ".repeat(400 - text.length()) + text, length < 5 ? 400 - length : NONE);
            text = "add 5 if " + "whole".substring(0, length);
            ruleFault(" ".repeat(400 - text.length()) + text, length < 5 ? 400 - length : NONE);
        }
        lawFault(" ".repeat(388) + "add 5 * role", NONE);
        lawFault(" ".repeat(389) + "add 5 * rol", 397);
    }

    static void promise04_asManyThingsAsTheTapeHasBytes() {
        for (String sign : new String[] {"+", ";", "(", "?"}) {
            bothFault(sign.repeat(400), 0);
            bothFault("add 5" + sign.repeat(395), sign.equals(";") ? 6 : 5);
        }
    }

    static void promise04_anAndOrAnOrWantsMore() {
        bothFault("add 5 if 1 < 2 or", 17);
        bothFault("add 5 if 1 < 2 and", 18);
        bothFault("add 5 if 1 < 2 or 1 < 2 and", 27);
        bothFault("add 5 if 1 < 2 or ;add 5", 18);
        bothFault("add 5 if 1 < 2 and ;add 5", 19);
        bothFault("add 5 if (1 < 2 or )", 19);
        bothFault("add 5 if (1 < 2 and )", 20);
    }

    static void promise04_wordsAreAsLongAsLettersGoOn() {
        lawFault("add5*age", NONE);
        lawFault("add5if first", NONE);
        lawFault("add5if age<1or last", NONE);
        lawFault("add5if(first)and(last)", NONE);
        lawFault("add5if not(last)", NONE);
        lawFault("add5*age;less3*old", NONE);
        lawFault("addless 5", 0);
        lawFault("add 5 iffirst", 6);
        lawFault("add 5 if notfirst", 9);
        lawFault("add 5 if firstor last", 9);
        lawFault("add 5 * ageif first", 8);
        lawFault("ad d 5", 0);
        lawFault("add 5 * a ge", 8);
    }

    static void promise04_aToZAlone() {
        lawFault("Add 5", 0);
        lawFault("aDd 5", 0);
        lawFault("addA5", 3);
        lawFault("add`5", 3);
        lawFault("add{5", 3);
        lawFault("add@5", 3);
        lawFault("add 5/", 5);
        lawFault("add 5:", 5);
        lawFault("add 5_", 5);
        lawFault("add -5", 4);
        lawFault("add +5", 4);
        lawFault("add 5.5", 5);
    }

    static void promise04_blanksBetweenAllAndAheadAndBehind() {
        lawFault("   add   5   *   age   if   not   (   first   or   age   +   1   <   2   )   and   last   ;   less"
                + "   3   ", NONE);
        lawFault(" ".repeat(395) + "add 1", NONE);
        lawFault("add 1" + " ".repeat(395), NONE);
        lawFault("add" + " ".repeat(396) + "1", NONE);
        lawFault("add 1 2 3", 6);
        lawFault("a dd 1", 0);
    }

    static void promise04_noOtherByteIsABlank() {
        for (int sign : new int[] {0, 1, 9, 10, 13, 31, 33, 127, 128, 160, 255}) {
            lawFault("add 5" + (char) sign, 5);
            lawFault((char) sign + "add 5", 0);
            lawFault("add" + (char) sign + "5", 3);
        }
    }

    static void promise04_theFactsAndTagsOfLaws() {
        for (String fact : LAW_FACTS) {
            lawFault("add 1 * " + fact, NONE);
            lawFault("add 1 if " + fact + " < 1 + " + fact, NONE);
            lawFault("add 1 if " + fact, 9 + fact.length());
        }
        for (String tag : LAW_TAGS) {
            lawFault("add 1 if " + tag, NONE);
            lawFault("add 1 * " + tag, 8);
            lawFault("add 1 if " + tag + " < 1", 10 + tag.length());
            lawFault("add 1 if 1 + " + tag + " < 1", 13);
            lawFault("add 1 if 1 > " + tag, 13);
        }
        for (String fact : RULE_FACTS) {
            lawFault("add 1 * " + fact, 8);
            lawFault("add 1 if " + fact + " < 1", 9);
            lawFault("add 1 if 1 > " + fact, 13);
        }
        lawFault("add 1 if whole", 9);
        lawFault("add 1 if first or whole", 18);
    }

    static void promise04_otherWordsStandInTheirPlaceAlone() {
        lawFault("add add 5", 4);
        lawFault("add if first", 4);
        lawFault("if first", 0);
        lawFault("first", 0);
        lawFault("age", 0);
        lawFault("add age", 4);
        lawFault("add 5 age", 6);
        lawFault("add 5 * if first", 8);
        lawFault("add 5 * less", 8);
        lawFault("add 5 and first", 6);
        lawFault("add 5 if if first", 9);
        lawFault("add 5 if and first", 9);
        lawFault("add 5 if first not last", 15);
        lawFault("add 5 if first if last", 15);
        lawFault("add 5 if first * age", 15);
        lawFault("add 5 if first less 5", 15);
        lawFault("add 5 if age not < 1", 13);
        lawFault("add 5 less 5", 6);
        lawFault("add 5 * age * age", 12);
        lawFault("add 5 + 5", 6);
        lawFault("add 5 if age < 1 < 2", 17);
        lawFault("add 5 if age < 1 > 2", 17);
        lawFault("add 5 if age * 2 < 1", 13);
        lawFault("add 5 if age = 1", 13);
        lawFault("add 5 if < 1", 9);
        lawFault("add 5 if + 1 < 1", 9);
        lawFault("add 5 if 1 + + 1 < 1", 13);
        lawFault("add 5 if first if", 15);
    }

    /** Things of a text, and behind them a letter for each: what else can stand in its stead. */
    private static final String[][] THINGS = {
        {"add 5 * FACT if not ( TAG or FACT + 1 < 2 ) and TAG ; less 3 ", "BNTFIAAAJAQPQPKOAOBNT"},
        {"less 5 if FACT > 7 + FACT and ( not 3 < FACT or ( TAG ) ) ; add 9 * FACT ", "BNTAQPLPLAAAQPKAAJJOBNTFI"},
    };

    /** What can stand where a letter of THINGS is told; FACT and TAG are any of the text's kind. */
    private static String standing(char where) {
        switch (where) {
            case 'B':
                return " add less ";
            case 'N':
                return " 5 ";
            case 'T':
                return " * if ; ";
            case 'F':
                return " FACT ";
            case 'I':
                return " if ; ";
            case 'A':
                return " not ( TAG FACT 5 ";
            case 'P':
                return " FACT 5 ";
            case 'Q':
                return " + < > ";
            case 'J':
                return " and or ) ";
            case 'K':
                return " + and or ) ";
            case 'L':
                return " + and or ; ";
            default:
                return " and or ; ";
        }
    }

    private static String kindOf(String thing, String[] facts, String[] tags) {
        for (String fact : facts) {
            if (fact.equals(thing)) {
                return "FACT";
            }
        }
        for (String tag : tags) {
            if (tag.equals(thing)) {
                return "TAG";
            }
        }
        return thing;
    }

    /** Where a law or a rule of the text is wrong. */
    private static int faultOf(String text, boolean asLaw) {
        MemoryHouse x = new MemoryHouse();
        write(x, text);
        return after(() -> x, asLaw ? MemoryHouse::law : MemoryHouse::rule).fault();
    }

    private static void eachThingInEachPlace(boolean asLaw) {
        String[] facts = asLaw ? LAW_FACTS : RULE_FACTS;
        String[] tags = asLaw ? LAW_TAGS : RULE_TAGS;
        for (String[] row : THINGS) {
            String text = row[0].replace("FACT", facts[0]).replace("TAG", tags[0]);
            int begin = 0;
            for (char where : row[1].toCharArray()) {
                for (String thing : (String.join(" ", WORDS) + " 5 * ; ( ) + < > ? 1234").split(" ")) {
                    boolean can = standing(where).contains(" " + kindOf(thing, facts, tags) + " ");
                    String tried = text.substring(0, begin) + thing;
                    int fault = faultOf(tried, asLaw);
                    due("\"" + tried + "\" is wrong in " + fault, fault == begin, !can);
                    due("\"" + tried + "\" is wrong in " + fault + ", or wants more", fault == begin
                            || fault == NONE || fault == tried.length(), true);
                }
                begin = text.indexOf(' ', begin) + 1;
            }
        }
    }

    static void promise04_eachThingInEachPlace() {
        eachThingInEachPlace(true);
    }

    static void promise05_eachThingInEachPlace() {
        eachThingInEachPlace(false);
    }

    static void promise04_noFactForANumberAndNoWordForATag() {
        for (String fact : LAW_FACTS) {
            lawFault("add " + fact, 4);
            lawFault("less " + fact + " * " + fact, 5);
        }
        for (String fact : RULE_FACTS) {
            ruleFault("add " + fact, 4);
            ruleFault("less " + fact + " * " + fact, 5);
        }
        for (String word : new String[] {"add", "less", "if", "and", "or"}) {
            bothFault("add 5 if " + word, 9);
            bothFault("add 5 if not " + word, 13);
            bothFault("add 5 * " + word, 8);
            bothFault("add " + word, 4);
        }
    }

    static void promise04_belowAndAboveAtTheEdge() {
        due("7 < 7", told("add 9 if seconds < 7"), 0);
        due("7 < 8", told("add 9 if seconds < 8"), 9);
        due("7 > 7", told("add 9 if seconds > 7"), 0);
        due("7 > 6", told("add 9 if seconds > 6"), 9);
        due("0 < 0", told("add 9 if 0 < 0"), 0);
        due("999 > 998", told("add 9 if 999 > 998"), 9);
        due("sums on both sides", told("add 9 if 1 + seconds + 1 < 5 + 5"), 9);
        due("as much on both sides", told("add 9 if 1 + seconds + 1 < 5 + 4 or 1 + seconds + 1 > 5 + 4"), 0);
    }

    static void promise04_sumsAsLongAsTheTape() {
        StringBuilder text = new StringBuilder("add 9 if 0<999");
        while (text.length() < 396) {
            text.append("+999");
        }
        due("a long sum", told(text.toString()), 9);
        StringBuilder many = new StringBuilder("add 9 if 1>0");
        while (many.length() + 8 <= 400) {
            many.append("and 1>0 ");
        }
        due("many joined", told(many.toString()), 9);
        due("the last of them", told(many.substring(0, many.length() - 8) + "and 0>1 "), 0);
    }

    static void promise04_andJoinsAheadOfOr() {
        due("or behind and", told("add 9 if 1 < 0 and 1 < 0 or 0 < 1"), 9);
        due("and behind or", told("add 9 if 0 < 1 or 1 < 0 and 1 < 0"), 9);
        due("brackets", told("add 9 if (0 < 1 or 1 < 0) and 1 < 0"), 0);
        due("not takes one atom", told("add 9 if not 1 < 0 or 0 < 1"), 9);
        due("not ahead of and", told("add 9 if not 1 < 0 and 1 < 0"), 0);
        due("not of brackets", told("add 9 if not (1 < 0 and 1 < 0)"), 9);
    }

    static void promise04_notOfATag() {
        MemoryHouse x = Rooms.one(4, 3, 1);
        law(x, "add 9 if not last");
        law(x, "add 9 if not first");
        due("not the last place", x.holds(0, 0, 0), 9);
        due("the last place", x.holds(0, 0, 3), 0);
        due("the first place", x.holds(1, 0, 0), 0);
        due("not the first place", x.holds(1, 0, 3), 9);
    }

    static void promise04_deepAndWideAtOnce() {
        // as much waits at each depth as can: an or, an and, and a comparison at the deepest
        String deep = "1<0 or 0<1 and (".repeat(6) + "1<0 or 0<1 and 1+1<1+1+1" + ")".repeat(6);
        due("deep", told("add 9 if " + deep), 9);
        due("not so deep", told("add 9 if " + deep.replace("1+1<1+1+1", "1+1+1<1+1")), 0);
    }

    static void promise04_linesWithoutAConditionHold() {
        due("all of them", told("add 5;less 2;add 1 if last;add 4 if first"), 7);
        due("a line that does not hold", told("add 5;less 5 if last"), 5);
    }

    // Promise 5

    private static int scored(String text, int right, int wrong) {
        MemoryHouse x = Rooms.one(5, 1, 1);
        for (int i = 0; i < right + wrong; i++) {
            x.say(0, i, i < right ? i : 51);
        }
        rule(x, text);
        return x.score(0, 0);
    }

    static void promise05_anEmptyTextHasNoLine() {
        ruleFault("", NONE);
        ruleFault(" ", NONE);
        due("it tells nothing", scored("", 3, 1), 0);
        due("a rule without a tape", new MemoryHouse().rule(), 0);
    }

    static void promise05_numbersOfRules() {
        MemoryHouse x = new MemoryHouse();
        for (int k = 0; k < 3; k++) {
            due("rule " + k, rule(x, "add " + k), k);
        }
        due("rules", x.count(6), 3);
        due("laws are others", law(x, "add 1"), 0);
    }

    static void promise05_aFourthRule() {
        refusedText(Rooms::full, UNSUP, "add 1", false, NONE);
        refusedText(Rooms::full, UNSUP, "", false, NONE);
    }

    static void promise05_aFourthRuleThatIsWrongIsWrongFirst() {
        refusedText(Rooms::full, ARG, "less", false, 4);
        refusedText(Rooms::full, ARG, "add 1 if last", false, 9);
    }

    static void promise05_aWrongTextChangesNothingElse() {
        refusedText(Rooms::rich, ARG, "add 1;less", false, 10);
        refusedText(Rooms::rich, ARG, "add 1 * age", false, 8);
        refusedText(MemoryHouse::new, ARG, ";", false, 0);
    }

    static void promise05_theTapeIsUsedUp() {
        MemoryHouse x = withTape(400);
        x.rule();
        due("by a rule", x.end(1), false);
        due("the next one is empty", x.rule(), 1);
        due("and tells nothing", x.score(1, 0), 0);
    }

    static void promise05_tenLinesAndAnEleventh() {
        ruleFault("add 1;".repeat(9) + "less 1", NONE);
        due("each counts", scored("add 1;".repeat(9) + "add 1", 0, 0), 10);
        ruleFault("add 1;".repeat(10) + " add 1", 61);
        ruleFault("add 1;".repeat(10), 60);
    }

    static void promise05_numbersAndDepth() {
        ruleFault("add 999 * right", NONE);
        ruleFault("add 1000 * right", 4);
        ruleFault("add 1 if ((((((whole))))))", NONE);
        ruleFault("add 1 if (((((((whole)))))))", 15);
        ruleFault("add 1 if not not not not not not not whole", 33);
    }

    static void promise05_theFactsAndTagsOfRules() {
        for (String fact : RULE_FACTS) {
            ruleFault("add 1 * " + fact, NONE);
            ruleFault("add 1 if " + fact + " < 1 + " + fact, NONE);
            ruleFault("add 1 if " + fact, 9 + fact.length());
        }
        for (String tag : RULE_TAGS) {
            ruleFault("add 1 if " + tag, NONE);
            ruleFault("add 1 * " + tag, 8);
            ruleFault("add 1 if " + tag + " > 1", 10 + tag.length());
            ruleFault("add 1 if 1 + " + tag + " < 1", 13);
        }
        for (String fact : LAW_FACTS) {
            ruleFault("add 1 * " + fact, 8);
            ruleFault("add 1 if " + fact + " < 1", 9);
        }
        for (String tag : LAW_TAGS) {
            ruleFault("add 1 if " + tag, 9);
        }
    }

    static void promise05_theSameTextsAsLaws() {
        bothFault("add", 3);
        bothFault("add 5 ;", 7);
        bothFault("add 5\t", 5);
        bothFault("add 5 if 1 < 2 and", 18);
        bothFault("add 5 if 1 < 2", NONE);
        bothFault("xyz", 0);
    }

    static void promise05_factsOfWhatWasSaid() {
        due("right", scored("add 1 * right", 3, 1), 3);
        due("wrong", scored("add 1 * wrong", 3, 1), 1);
        due("blank", scored("add 1 * blank", 3, 1), 1);
        due("cards", scored("add 1 * cards", 3, 1), 5);
        due("whole at 4 of 5", scored("add 1 if whole", 4, 0), 0);
        due("whole at 5 of 5", scored("add 1 if whole", 5, 0), 1);
    }

    static void promise05_notWhole() {
        due("4 of 5", scored("add 9 if not whole", 4, 0), 9);
        due("5 of 5", scored("add 9 if not whole", 5, 0), 0);
        due("not not", scored("add 9 if not not whole", 5, 0), 9);
    }

    // Promise 6

    static void promise06_noneAheadOfAny() {
        due("ahead of any", new MemoryHouse().fault(), NONE);
        MemoryHouse x = new MemoryHouse();
        feed(x, "xyz");
        due("ahead of reading it", x.fault(), NONE);
    }

    static void promise06_noneForATextThatIsRight() {
        MemoryHouse x = new MemoryHouse();
        refused("a wrong one", ARG, () -> law(x, "add"));
        due("its fault", x.fault(), 3);
        law(x, "add 1");
        due("none behind a right law", x.fault(), NONE);
        refused("a wrong rule", ARG, () -> rule(x, "add 1 if"));
        due("its fault", x.fault(), 8);
        rule(x, "");
        due("none behind an empty rule", x.fault(), NONE);
    }

    static void promise06_theLatestText() {
        MemoryHouse x = new MemoryHouse();
        refused("a wrong law", ARG, () -> law(x, "add 1;"));
        refused("a wrong rule", ARG, () -> rule(x, "add 1;?"));
        due("that of the rule", x.fault(), 6);
        refused("a wrong law again", ARG, () -> law(x, "?"));
        due("that of the law", x.fault(), 0);
    }

    static void promise06_theFirstAndTheLastByte() {
        lawFault("?", 0);
        lawFault("add 1" + " ".repeat(394) + "?", 399);
        lawFault("add" + " ".repeat(397), 400);
        ruleFault("add 1;" + " ".repeat(394), 400);
    }

    static void promise06_otherCallsLeaveIt() {
        MemoryHouse x = new MemoryHouse();
        refused("a wrong law", ARG, () -> law(x, "add 1;"));
        feed(x, "add 1");
        x.end(3);
        x.image();
        refused("a refused call", ARG, () -> x.house(0));
        due("as it was", x.fault(), 6);
        due("asked twice", x.fault(), 6);
        x.back();
        due("not of THE IMAGE", x.fault(), 6);
    }

    static void promise06_textsThatAreRightButTooMany() {
        MemoryHouse x = Rooms.full();
        x.end(0);
        refused("a wrong law", ARG, () -> law(x, "add 1;"));
        due("its fault", x.fault(), 6);
        refused("one law too many", UNSUP, () -> law(x, "add 1"));
        due("that was read, and is right", x.fault(), NONE);
    }
}
