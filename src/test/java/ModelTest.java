import java.lang.reflect.InvocationTargetException;
import java.lang.reflect.Method;
import java.util.ArrayList;
import java.util.HashMap;
import java.util.List;
import java.util.Map;
import java.util.Random;

/** Long runs of drawn calls (always the same ones), each answer held against the Model's. */
public final class ModelTest {
    private static final Map<String, Method> METHODS = new HashMap<>();
    private static final String[] LAW_FACTS = {"seconds", "dull", "old", "like", "age", "gone", "per", "role"};
    private static final String[] RULE_FACTS = {"right", "wrong", "blank", "cards"};
    private static final String[] OFTEN = {"say", "say", "run", "run", "go", "later", "dull", "dull", "look", "put",
        "holds", "awaited", "about", "about", "kind", "odds", "odds", "kinds", "lacks", "guess", "again", "again",
        "per", "per", "plan", "plan", "last", "change", "dullest", "moment", "chance", "risk", "week", "rates",
        "count", "fits", "score", "houses", "unlike", "card", "pack", "house", "law", "rule", "image", "back",
        "moments", "fault", "feed", "end"};

    private final Random random;
    private final List<String> trace = new ArrayList<>();
    private MemoryHouse real = new MemoryHouse();
    private Model model = new Model();
    private int calls = 0;

    private ModelTest(long seed) {
        random = new Random(seed);
    }

    public static void main(String[] args) {
        int runs = args.length > 0 ? Integer.parseInt(args[0]) : 400;
        int from = args.length > 1 ? Integer.parseInt(args[1]) : 0;
        for (Method m : MemoryHouse.class.getMethods()) {
            METHODS.put(m.getName(), m);
        }
        long[] total = {0};
        boolean good = java.util.stream.IntStream.range(from, from + runs).parallel().allMatch(seed -> {
            ModelTest test = new ModelTest(seed);
            boolean same = test.goThrough();
            synchronized (total) {
                total[0] += test.calls;
                if (!same) {
                    System.out.println("run of seed " + seed + ":");
                    test.trace.forEach(System.out::println);
                }
            }
            return same;
        });
        System.out.println(total[0] + " calls held against the model");
        if (!good) {
            System.exit(1);
        }
    }

    private boolean goThrough() {
        boolean same = true;
        int houses = 1 + random.nextInt(6);
        for (int k = 0; k < houses && same; k++) {
            same = check("house", 1 + random.nextInt(20));
        }
        int packs = 2 + random.nextInt(7);
        int[] steps = {1, 3, 5, 7, 9, 11, 15, 51, 49, 25};
        for (int k = 0; k < packs && same; k++) {
            int n = random.nextInt(3) == 0 ? 3 + random.nextInt(50) : 3 + random.nextInt(10);
            same = check("pack", random.nextInt(52), steps[random.nextInt(steps.length)], n);
        }
        for (int k = 0; k < 4 && same; k++) {
            same = readText(k % 2 == 0, random.nextInt(5) > 0);
        }
        for (int k = 0; k < 6 && same; k++) {
            same = check("dull", random.nextInt(52), random.nextInt(3), random.nextInt(10));
        }
        for (int k = 0; k < 6 && same; k++) {
            same = check("put", random.nextInt(packs), random.nextInt(Math.min(houses, 2)), random.nextInt(3),
                    1 + random.nextInt(3), 1 + random.nextInt(random.nextBoolean() ? 5 : 20));
        }
        boolean wild = random.nextInt(8) == 0;
        while (same && calls < 470) {
            String name = OFTEN[random.nextInt(OFTEN.length)];
            same = wild && random.nextInt(3) > 0 ? stepWildly(name) : step(name);
        }
        return same;
    }

    /** Any numbers for anything: only what the document names may come of it. */
    private boolean stepWildly(String name) {
        int[] some = {Integer.MIN_VALUE, Integer.MAX_VALUE, Integer.MIN_VALUE + 1, -65536, -2, -1, 0, 1, 2, 3, 4, 5, 6,
            7, 8, 9, 10, 12, 19, 20, 21, 51, 52, 53, 60, 61, 99, 100, 101, 399, 400, 5200, 5201, 9999, 10000, 99999,
            100000, 999999, 1000000, 1000001, 1 << 30};
        Class<?>[] types = METHODS.get(name).getParameterTypes();
        int[] a = new int[types.length];
        for (int k = 0; k < a.length; k++) {
            a[k] = types[k] == boolean.class ? bit() : some[random.nextInt(some.length)];
        }
        return check(name, a);
    }

    private boolean step(String name) {
        switch (name) {
            case "law":
            case "rule":
                return readText(name.equals("law"), random.nextInt(4) > 0);
            case "feed":
                return random.nextInt(4) != 0 || check(name, random.nextInt(), random.nextInt(), random.nextInt(),
                        random.nextInt(), random.nextInt());
            case "end":
                return check(name, pick(-1, 25));
            case "dull":
                return check(name, pick(-1, 52), pick(-1, 3), pick(-1, 10));
            case "house":
                return random.nextInt(4) != 0 || check(name, pick(-1, 21));
            case "look":
                return check(name, random.nextInt(3) == 0 ? pick(-1, 6) : random.nextInt(2), pick(-1,
                        random.nextBoolean() ? 20 : 6), random.nextInt(4) == 0 ? pick(-1, 10) : pick(0, 2));
            case "pack":
                return random.nextInt(4) != 0 || check(name, pick(-1, 52), pick(-1, 53), pick(2, 53));
            case "card":
            case "kind":
                return check(name, aPack(), aPlace());
            case "put":
                return check(name, aPack(), pick(-1, 6), pick(-1, random.nextBoolean() ? 4 : 20), random.nextInt(6) == 0 ? pick(0, 4)
                        : pick(1, 3), random.nextInt(6) == 0 ? pick(0, 61) : pick(1, 8));
            case "later":
                return check(name, random.nextInt(60) == 0 ? pick(-5, 999000) : pick(-1, 40));
            case "go":
                return check(name, aPack(), random.nextInt(3) == 0 ? pick(0, 61) : pick(1, 4));
            case "about":
                return check(name, aPack(), aPlace(), pick(-1, 8));
            case "holds":
                return check(name, aLaw(), aPack(), aPlace());
            case "awaited":
                return check(name, aLaw(), aPack());
            case "say":
                return sayOne();
            case "run":
                return check(name, aLaw(), aPack(), random.nextInt());
            case "odds":
                return check(name, aLaw(), aPack(), aPlace(), pick(-1, 6), bit());
            default:
                return stepOn(name);
        }
    }

    private boolean stepOn(String name) {
        switch (name) {
            case "kinds":
                return check(name, aPack(), pick(-1, 7));
            case "score":
                return check(name, aLaw(), aPack());
            case "fits":
                return check(name, aPack(), random.nextBoolean() ? pick(-1, 5201) : pick(-1, 400));
            case "lacks":
                return check(name, aPack(), random.nextBoolean() ? -1 : pick(-2, 12));
            case "guess":
                return check(name, aLaw(), aPack(), pick(-1, 3));
            case "moment":
                return check(name, model.moments.isEmpty() || random.nextInt(5) == 0 ? pick(-1, 400)
                        : Math.min(100000, model.moments.get(model.moments.size() - 1) + pick(0, 300)));
            case "moments":
                return random.nextInt(3) != 0 || check(name);
            case "again":
                return check(name, aLaw(), aPack(), pick(-1, 7), random.nextInt(5) == 0 ? pick(-1, 100000)
                        : pick(300, 3000), bit());
            case "houses":
                return check(name, aLaw(), pick(0, 61), pick(0, 61), pick(-1, 101));
            case "unlike":
                return check(name, random.nextInt(5) == 0 ? random.nextInt() : random.nextInt(64), bit());
            case "per":
                return check(name, aLaw(), aPack(), pick(-1, 6), random.nextInt(8) == 0 ? pick(0, 10000)
                        : pick(0, 200), bit());
            case "plan":
                return check(name, aLaw(), unputSet(), pick(1, 3), pick(1, 60), random.nextBoolean() ? -1
                        : random.nextInt(8) == 0 ? pick(-1, 8) : random.nextInt(Math.max(1, model.packs.size())));
            case "last":
                return check(name, aLaw(), random.nextInt(5) == 0 ? random.nextInt() : random.nextInt(256),
                        random.nextInt(5) == 0 ? pick(-1, 10000) : pick(0, 300));
            case "chance":
                return check(name, pick(0, 7), pick(-1, 101));
            case "risk":
                return check(name, pick(-1, 7), bit());
            case "week":
                return check(name, model.weeks.isEmpty() || random.nextInt(8) == 0 ? pick(-1, 10000)
                        : model.weeks.get(model.weeks.size() - 1) + pick(0, 40));
            case "rates":
                return check(name, random.nextInt(2) == 0 || model.weeks.isEmpty() ? pick(-1, 10000)
                        : model.weeks.get(model.weeks.size() - 1) + pick(-50, 200), pick(-1, 5));
            case "change":
                return random.nextInt(3) != 0 || check(name, aLaw());
            case "image":
                return random.nextInt(2) != 0 || check(name);
            case "back":
                return random.nextInt(3) != 0 || check(name);
            case "count":
                return check(name, pick(-1, 10));
            default:
                return check(name);
        }
    }

    /** Mostly a card that is some slip, so that all KINDS come up. */
    private boolean sayOne() {
        int pack = aPack();
        int i = aPlace();
        int card = pick(-2, 52);
        if (pack >= 0 && pack < model.packs.size() && random.nextInt(4) > 0) {
            Model.Pack p = model.packs.get(pack);
            i = random.nextInt(p.cards.length);
            int near = i + random.nextInt(7) - 3;
            card = p.cards[Math.max(0, Math.min(p.cards.length - 1, near))];
            if (random.nextInt(3) == 0) {
                Model.Pack q = model.packs.get(random.nextInt(model.packs.size()));
                card = q.cards[random.nextInt(q.cards.length)];
            }
        }
        return check("say", pack, i, card);
    }

    private int unputSet() {
        if (random.nextInt(8) == 0) {
            return random.nextInt();
        }
        int set = 0;
        for (int p = 0; p < model.packs.size(); p++) {
            if (!model.packs.get(p).put && random.nextInt(4) > 0) {
                set |= 1 << p;
            }
        }
        return set;
    }

    private int bit() {
        return random.nextInt(2);
    }

    private int pick(int least, int most) {
        if (random.nextInt(60) == 0) {
            int[] far = {Integer.MIN_VALUE, Integer.MAX_VALUE, -1, 1000000, 65536};
            return far[random.nextInt(far.length)];
        }
        return least + random.nextInt(most - least + 1);
    }

    private int aPack() {
        if (model.putOrder.size() > 0 && random.nextInt(2) == 0) {
            return model.putOrder.get(random.nextInt(model.putOrder.size()));
        }
        return random.nextInt(12) == 0 ? pick(-1, 8) : random.nextInt(Math.max(1, model.packs.size()));
    }

    private int aPlace() {
        return random.nextInt(5) == 0 ? pick(-1, 52) : random.nextInt(6);
    }

    private int aLaw() {
        return random.nextInt(12) == 0 ? pick(-1, 3) : random.nextInt(2);
    }

    private boolean readText(boolean law, boolean right) {
        StringBuilder text = new StringBuilder();
        int lines = random.nextInt(8) == 0 ? 8 + random.nextInt(4) : random.nextInt(6);
        if (law && random.nextInt(3) > 0) {
            text.append(headLike()).append(lines > 0 ? ";" : "");
            lines = Math.min(lines, 4);
        }
        for (int k = 0; k < lines; k++) {
            text.append(k == 0 ? "" : ";").append(line(law));
        }
        if (!right && text.length() > 0) {
            spoil(text);
        }
        if (text.length() > 380) {
            text.setLength(380);
        }
        boolean same = check("end", 0);
        for (int at = 0; at < text.length() && same; at += 20) {
            int[] a = new int[5];
            for (int k = 0; k < 20; k++) {
                int sign = at + k < text.length() ? text.charAt(at + k) : random.nextInt(256);
                a[k / 4] |= sign << (24 - 8 * (k % 4));
            }
            same = check("feed", a);
        }
        return same && check("end", text.length()) && check(law ? "law" : "rule") && check("fault");
    }

    /** Lines by which cards hold neither wholly nor not at all, so that what is best is seldom a tie. */
    private String headLike() {
        StringBuilder b = new StringBuilder("add ").append(20 + random.nextInt(60));
        String[] more = {"less 1 * age", "add 4 * gone", "less 9 * old", "less 6 * like", "less 5 * dull",
            "add 2 * seconds", "less 7 * role", "add 9 if first", "less 11 * per"};
        for (String s : more) {
            if (random.nextInt(2) == 0) {
                b.append(';').append(s);
            }
        }
        return b.toString();
    }

    private void spoil(StringBuilder text) {
        String signs = "ab0 9();*+<>if\n\0\u00ff~z{`/:";
        for (int n = 0; n <= random.nextInt(3) && text.length() > 0; n++) {
            int at = random.nextInt(text.length());
            char sign = signs.charAt(random.nextInt(signs.length()));
            switch (random.nextInt(5)) {
                case 0:
                    text.deleteCharAt(at);
                    break;
                case 1:
                    text.insert(at, sign);
                    break;
                case 2:
                    text.setCharAt(at, sign);
                    break;
                case 3:
                    text.setLength(at);
                    break;
                default:
                    text.insert(at, new String[] {" not ", "(", ")", " and first", " or whole", ";", "12"}
                            [random.nextInt(7)]);
                    break;
            }
        }
    }

    private String blanks() {
        return random.nextInt(6) == 0 ? "  " : "";
    }

    private String line(boolean law) {
        StringBuilder b = new StringBuilder(blanks());
        b.append(random.nextBoolean() ? "add" : "less").append(random.nextInt(5) == 0 ? "" : " ").append(blanks());
        b.append(random.nextInt(random.nextInt(4) == 0 ? 1000 : 12)).append(blanks());
        if (random.nextInt(3) > 0) {
            b.append(random.nextBoolean() ? "*" : " * ").append(fact(law)).append(blanks());
        }
        if (random.nextInt(3) == 0) {
            b.append(" if ").append(either(law, 0, 3)).append(blanks());
        }
        return b.toString();
    }

    private String fact(boolean law) {
        String[] of = law ? LAW_FACTS : RULE_FACTS;
        return of[random.nextInt(of.length)];
    }

    private String either(boolean law, int depth, int width) {
        StringBuilder b = new StringBuilder(atom(law, depth));
        for (int n = random.nextInt(width); n > 0; n--) {
            b.append(random.nextBoolean() ? " and " : " or ").append(atom(law, depth));
        }
        return b.toString();
    }

    private String atom(boolean law, int depth) {
        switch (random.nextInt(depth > 6 ? 3 : 6)) {
            case 0:
                return law ? random.nextBoolean() ? "first" : "last" : "whole";
            case 1:
            case 2:
                return sum(law) + (random.nextBoolean() ? "<" : " > ") + sum(law);
            case 3:
            case 4:
                return "not " + atom(law, depth + 1);
            default:
                return "(" + either(law, depth + 1, 2) + blanks() + ")";
        }
    }

    private String sum(boolean law) {
        StringBuilder b = new StringBuilder();
        for (int n = random.nextInt(3); n >= 0; n--) {
            b.append(random.nextBoolean() ? fact(law) : String.valueOf(random.nextInt(12)));
            b.append(n > 0 ? "+" : "");
        }
        return b.toString();
    }

    private boolean check(String name, int... a) {
        calls++;
        Object due = model.call(name, a);
        Object got = ask(name, a);
        StringBuilder b = new StringBuilder(name).append(java.util.Arrays.toString(a)).append(" -> ").append(got);
        boolean same = String.valueOf(due).equals(String.valueOf(got));
        trace.add(same ? b.toString() : b.append(", due is ").append(due).toString());
        return same;
    }

    private Object ask(String name, int[] a) {
        Method m = METHODS.get(name);
        Object[] given = new Object[a.length];
        for (int k = 0; k < a.length; k++) {
            given[k] = m.getParameterTypes()[k] == boolean.class ? (Object) (a[k] == 1) : (Object) a[k];
        }
        try {
            Object got = m.invoke(real, given);
            return got == null ? (Object) 0L : got instanceof Boolean ? (Object) ((Boolean) got ? 1L : 0L)
                    : (Object) ((Number) got).longValue();
        } catch (InvocationTargetException e) {
            return "throws." + e.getCause().getClass().getSimpleName();
        } catch (IllegalAccessException e) {
            return "no access";
        }
    }
}
