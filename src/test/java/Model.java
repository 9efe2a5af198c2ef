import java.math.BigInteger;
import java.util.ArrayList;
import java.util.Arrays;
import java.util.HashMap;
import java.util.LinkedHashMap;
import java.util.List;
import java.util.Map;

/**
 * The document once more, as slowly and plainly as can be: no sum is kept, every "would be" is tried on a copy
 * of all. Answers are numbers (a boolean is 1 or 0, nothing is 0), or the name of the exception behind "throws.".
 */
final class Model {
    static final int NONE = -1;
    static final String OUT = "throws.IndexOutOfBoundsException";
    static final String STATE = "throws.IllegalStateException";
    static final String ARG = "throws.IllegalArgumentException";
    static final String UNSUP = "throws.UnsupportedOperationException";
    static final String NOSUCH = "throws.NoSuchElementException";

    /** Thrown inside the model alone. */
    static final class Refused extends RuntimeException {
        private static final long serialVersionUID = 1;
        final String name;

        Refused(String name) {
            super(name, null, false, false);
            this.name = name;
        }
    }

    static final class Spot {
        int door;
        int touched;
        final List<Integer> cards = new ArrayList<>();
    }

    static final class Pack {
        int[] cards;
        int[] said;
        boolean put;
        int house;
        int per;
        int seconds;
        int gone;
        List<Spot> spots = new ArrayList<>();

        Pack copy() {
            Pack p = new Pack();
            p.cards = cards.clone();
            p.said = said.clone();
            p.put = put;
            p.house = house;
            p.per = per;
            p.seconds = seconds;
            p.gone = gone;
            for (Spot s : spots) {
                Spot t = new Spot();
                t.door = s.door;
                t.touched = s.touched;
                t.cards.addAll(s.cards);
                p.spots.add(t);
            }
            return p;
        }

        void layOut(int atHouse, int door, int perPlace, int secondsEach) {
            put = true;
            house = atHouse;
            per = perPlace;
            seconds = secondsEach;
            gone = 0;
            spots = new ArrayList<>();
            for (int i = 0; i < cards.length; i++) {
                if (i % per == 0) {
                    Spot s = new Spot();
                    s.door = door + spots.size();
                    spots.add(s);
                }
                spots.get(spots.size() - 1).cards.add(cards[i]);
            }
        }

        Integer atDoor(int h, int door, int role) {
            if (!put || h != house) {
                return null;
            }
            for (Spot s : spots) {
                if (s.door == door && role < s.cards.size()) {
                    return s.cards.get(role);
                }
            }
            return null;
        }

        boolean hasDoor(int h, int door) {
            return atDoor(h, door, 0) != null;
        }

        int right() {
            int n = 0;
            for (int i = 0; i < cards.length; i++) {
                if (said[i] == cards[i]) {
                    n++;
                }
            }
            return n;
        }

        int blank() {
            int n = 0;
            for (int x : said) {
                if (x == NONE) {
                    n++;
                }
            }
            return n;
        }

        List<Integer> lacking() {
            List<Integer> l = new ArrayList<>();
            for (int c : cards) {
                boolean was = false;
                for (int x : said) {
                    was |= x == c;
                }
                if (!was) {
                    l.add(c);
                }
            }
            return l;
        }
    }

    /** A text as its things; it is gone through anew each time something is to be told by it. */
    static final class Words {
        final List<String> things = new ArrayList<>();
        final List<Integer> begins = new ArrayList<>();
        int at;
        Map<String, Long> facts;

        Words(byte[] text) {
            int i = 0;
            while (i < text.length) {
                int c = text[i] & 255;
                if (c == 32) {
                    i++;
                    continue;
                }
                int j = i + 1;
                if (c >= 'a' && c <= 'z') {
                    while (j < text.length && text[j] >= 'a' && text[j] <= 'z') {
                        j++;
                    }
                } else if (c >= '0' && c <= '9') {
                    while (j < text.length && text[j] >= '0' && text[j] <= '9') {
                        j++;
                    }
                }
                StringBuilder b = new StringBuilder();
                for (int k = i; k < j; k++) {
                    b.append((char) (text[k] & 255));
                }
                things.add(b.toString());
                begins.add(i);
                i = j;
            }
            things.add("END");
            begins.add(text.length);
        }

        static boolean number(String s) {
            return s.matches("[0-9]{1,3}");
        }

        /** A machine with a stack of open ( and not, so that it errs otherwise than a reader by grammar would. */
        int firstWrong(List<String> factNames, List<String> tags) {
            if (things.size() == 1) {
                return NONE;
            }
            List<String> open = new ArrayList<>();
            String state = "line";
            int lines = 0;
            for (int i = 0; i < things.size(); i++) {
                String t = things.get(i);
                boolean part = number(t) || factNames.contains(t);
                boolean ended = t.equals("END") || t.equals(";");
                String next = null;
                switch (state) {
                    case "line":
                        next = lines < 10 && (t.equals("add") || t.equals("less")) ? "number" : null;
                        lines++;
                        break;
                    case "number":
                        next = number(t) ? "behind number" : null;
                        break;
                    case "behind number":
                        next = t.equals("*") ? "fact" : t.equals("if") ? "atom" : ended ? "line" : null;
                        break;
                    case "fact":
                        next = factNames.contains(t) ? "behind fact" : null;
                        break;
                    case "behind fact":
                        next = t.equals("if") ? "atom" : ended ? "line" : null;
                        break;
                    case "atom":
                        if (t.equals("not") || t.equals("(")) {
                            if (open.size() < 6) {
                                open.add(t);
                                next = "atom";
                            }
                        } else {
                            next = tags.contains(t) ? "behind atom" : part ? "left" : null;
                        }
                        break;
                    case "left":
                        next = t.equals("+") ? "left part" : t.equals("<") || t.equals(">") ? "right part" : null;
                        break;
                    case "left part":
                        next = part ? "left" : null;
                        break;
                    case "right part":
                        next = part ? "right" : null;
                        break;
                    case "right":
                        next = t.equals("+") ? "right part" : behindAtom(t, open, ended);
                        break;
                    default:
                        next = behindAtom(t, open, ended);
                        break;
                }
                if (next == null) {
                    return begins.get(i);
                }
                state = next;
                if (t.equals("END")) {
                    return NONE;
                }
            }
            throw new IllegalStateException("no END");
        }

        private static String behindAtom(String t, List<String> open, boolean ended) {
            while (!open.isEmpty() && open.get(open.size() - 1).equals("not")) {
                open.remove(open.size() - 1);
            }
            if (t.equals("and") || t.equals("or")) {
                return "atom";
            }
            if (t.equals(")") && !open.isEmpty()) {
                open.remove(open.size() - 1);
                return "behind atom";
            }
            return ended && open.isEmpty() ? "line" : null;
        }

        long tell(Map<String, Long> given) {
            facts = given;
            at = 0;
            long sum = 0;
            while (!things.get(at).equals("END")) {
                boolean add = things.get(at++).equals("add");
                long n = Long.parseLong(things.get(at++));
                if (things.get(at).equals("*")) {
                    n *= facts.get(things.get(at + 1));
                    at += 2;
                }
                boolean good = true;
                if (things.get(at).equals("if")) {
                    at++;
                    good = either();
                }
                if (good) {
                    sum += add ? n : -n;
                }
                if (things.get(at).equals(";")) {
                    at++;
                }
            }
            return sum;
        }

        private boolean either() {
            boolean b = all();
            while (things.get(at).equals("or")) {
                at++;
                boolean c = all();
                b = b || c;
            }
            return b;
        }

        private boolean all() {
            boolean b = atom();
            while (things.get(at).equals("and")) {
                at++;
                boolean c = atom();
                b = b && c;
            }
            return b;
        }

        private boolean atom() {
            String t = things.get(at);
            if (t.equals("not")) {
                at++;
                return !atom();
            }
            if (t.equals("(")) {
                at++;
                boolean b = either();
                at++;
                return b;
            }
            if (facts.containsKey("tag " + t)) {
                at++;
                return facts.get("tag " + t) == 1;
            }
            long left = sum();
            boolean below = things.get(at++).equals("<");
            long right = sum();
            return below ? left < right : left > right;
        }

        private long sum() {
            long s = 0;
            while (true) {
                String t = things.get(at++);
                s += number(t) ? Long.parseLong(t) : facts.get(t);
                if (!things.get(at).equals("+")) {
                    return s;
                }
                at++;
            }
        }
    }

    int[][] dull = new int[52][3];
    List<int[]> houses = new ArrayList<>();
    List<Pack> packs = new ArrayList<>();
    List<Integer> putOrder = new ArrayList<>();
    List<Words> laws = new ArrayList<>();
    List<Words> rules = new ArrayList<>();
    List<Integer> weeks = new ArrayList<>();
    List<Integer> moments = new ArrayList<>();
    int[] chances = new int[7];
    int clock;

    byte[] tape = new byte[0];
    int fault = NONE;
    Model image;

    Model copy() {
        Model m = new Model();
        m.takeFrom(this);
        return m;
    }

    void takeFrom(Model o) {
        for (int i = 0; i < 52; i++) {
            dull[i] = o.dull[i].clone();
        }
        houses = new ArrayList<>();
        for (int[] h : o.houses) {
            houses.add(h.clone());
        }
        packs = new ArrayList<>();
        for (Pack p : o.packs) {
            packs.add(p.copy());
        }
        putOrder = new ArrayList<>(o.putOrder);
        laws = new ArrayList<>(o.laws);
        rules = new ArrayList<>(o.rules);
        weeks = new ArrayList<>(o.weeks);
        moments = new ArrayList<>(o.moments);
        chances = o.chances.clone();
        clock = o.clock;
    }

    Object call(String name, int... a) {
        try {
            return answer(name, a);
        } catch (Refused r) {
            return r.name;
        }
    }

    private static void need(boolean good, String name) {
        if (!good) {
            throw new Refused(name);
        }
    }

    private void needLaw(int law) {
        need(law >= 0 && law < laws.size(), OUT);
    }

    private void needRule(int rule) {
        need(rule >= 0 && rule < rules.size(), OUT);
    }

    private Pack needPack(int pack) {
        need(pack >= 0 && pack < packs.size(), OUT);
        return packs.get(pack);
    }

    private Pack needCard(int pack, int i) {
        Pack p = needPack(pack);
        need(i >= 0 && i < p.cards.length, OUT);
        return p;
    }

    private void needDoor(int house, int door) {
        need(house >= 0 && house < houses.size(), OUT);
        need(door >= 0 && door < houses.get(house).length, OUT);
    }

    private static boolean within(int x, int least, int most) {
        return x >= least && x <= most;
    }

    private long answer(String name, int[] a) {
        switch (name) {
            case "feed":
            case "end":
            case "law":
            case "rule":
            case "fault":
                return text(name, a);
            case "dull":
            case "house":
            case "look":
            case "pack":
            case "card":
            case "put":
            case "later":
            case "go":
                return build(name, a);
            case "about":
            case "holds":
            case "awaited":
            case "say":
            case "kind":
            case "run":
            case "odds":
            case "kinds":
            case "score":
            case "fits":
            case "lacks":
            case "guess":
                return speak(name, a);
            default:
                return ponder(name, a);
        }
    }

    private long text(String name, int[] a) {
        switch (name) {
            case "feed": {
                if (tape.length + 20 > 400) {
                    return NONE;
                }
                byte[] t = Arrays.copyOf(tape, tape.length + 20);
                for (int i = 0; i < 20; i++) {
                    t[tape.length + i] = (byte) (a[i / 4] >> (24 - 8 * (i % 4)));
                }
                tape = t;
                return tape.length;
            }
            case "end":
                if (a[0] < 0 || a[0] > tape.length) {
                    return 0;
                }
                tape = Arrays.copyOf(tape, a[0]);
                return 1;
            case "fault":
                return fault;
            default: {
                boolean law = name.equals("law");
                Words w = new Words(tape);
                tape = new byte[0];
                fault = law
                        ? w.firstWrong(List.of("seconds", "dull", "old", "like", "age", "gone", "per", "role"),
                                List.of("first", "last"))
                        : w.firstWrong(List.of("right", "wrong", "blank", "cards"), List.of("whole"));
                need(fault == NONE, ARG);
                List<Words> to = law ? laws : rules;
                need(to.size() < 3, UNSUP);
                to.add(w);
                return to.size() - 1;
            }
        }
    }

    private long build(String name, int[] a) {
        switch (name) {
            case "dull": {
                need(within(a[0], 0, 51) && within(a[1], 0, 2), OUT);
                need(within(a[2], 0, 9), ARG);
                int was = dull[a[0]][a[1]];
                dull[a[0]][a[1]] = a[2];
                return was;
            }
            case "house": {
                need(within(a[0], 1, 20), ARG);
                need(houses.size() < 6, UNSUP);
                int[] looks = new int[a[0]];
                for (int i = 0; i < looks.length; i++) {
                    looks[i] = i % 10;
                }
                houses.add(looks);
                return houses.size() - 1;
            }
            case "look":
                needDoor(a[0], a[1]);
                need(within(a[2], 0, 9), ARG);
                houses.get(a[0])[a[1]] = a[2];
                return 0;
            case "pack": {
                need(within(a[0], 0, 51) && within(a[1], 1, 51) && within(a[2], 3, 52), ARG);
                need(BigInteger.valueOf(a[1]).gcd(BigInteger.valueOf(52)).intValue() == 1, ARG);
                need(packs.size() < 8, UNSUP);
                Pack p = new Pack();
                p.cards = new int[a[2]];
                p.said = new int[a[2]];
                Arrays.fill(p.said, NONE);
                int c = a[0];
                for (int i = 0; i < a[2]; i++) {
                    p.cards[i] = c;
                    c = (c + a[1]) % 52;
                }
                packs.add(p);
                return packs.size() - 1;
            }
            case "card":
                return needCard(a[0], a[1]).cards[a[1]];
            case "put": {
                Pack p = needPack(a[0]);
                needDoor(a[1], a[2]);
                need(!p.put, STATE);
                need(within(a[3], 1, 3) && within(a[4], 1, 60), ARG);
                Pack q = p.copy();
                q.layOut(a[1], a[2], a[3], a[4]);
                need(a[2] + q.spots.size() <= houses.get(a[1]).length, ARG);
                need(clock + q.spots.size() * a[4] <= 1000000, ARG);
                for (Spot s : q.spots) {
                    s.touched = clock;
                    clock += a[4];
                }
                packs.set(a[0], q);
                putOrder.add(a[0]);
                return q.spots.size();
            }
            case "later":
                need(a[0] >= 0 && (long) clock + a[0] <= 1000000, ARG);
                clock += a[0];
                return clock;
            default: {
                Pack p = needPack(a[0]);
                need(p.put, STATE);
                need(within(a[1], 1, 60) && clock + a[1] * p.spots.size() <= 1000000, ARG);
                for (Spot s : p.spots) {
                    s.touched = clock;
                    clock += a[1];
                }
                p.gone++;
                return p.gone;
            }
        }
    }

    private int old(int pack, int door) {
        int n = 0;
        for (int o : putOrder) {
            if (o == pack) {
                return n;
            }
            if (packs.get(o).hasDoor(packs.get(pack).house, door)) {
                n++;
            }
        }
        throw new IllegalStateException("not put");
    }

    private int like(Pack p, int place) {
        int[] looks = houses.get(p.house);
        int n = 0;
        for (int k = 0; k < p.spots.size(); k++) {
            if (k != place && looks[p.spots.get(k).door] == looks[p.spots.get(place).door]) {
                n++;
            }
        }
        return n;
    }

    private Map<String, Long> lawFacts(int pack, int i) {
        Pack p = packs.get(pack);
        int place = i / p.per;
        int role = i % p.per;
        Spot s = p.spots.get(place);
        Map<String, Long> f = new HashMap<>();
        f.put("seconds", (long) p.seconds);
        f.put("dull", (long) dull[p.cards[i]][role]);
        f.put("old", (long) old(pack, s.door));
        f.put("like", (long) like(p, place));
        f.put("age", (long) ((clock - s.touched) / 10));
        f.put("gone", (long) p.gone);
        f.put("per", (long) p.per);
        f.put("role", (long) role);
        f.put("tag first", place == 0 ? 1L : 0L);
        f.put("tag last", place == p.spots.size() - 1 ? 1L : 0L);
        return f;
    }

    private int holds(Words law, int pack, int i) {
        return (int) Math.max(0, Math.min(100, law.tell(lawFacts(pack, i))));
    }

    private int awaited(Words law, int pack) {
        int sum = 0;
        for (int i = 0; i < packs.get(pack).cards.length; i++) {
            sum += holds(law, pack, i);
        }
        return sum;
    }

    /** The cards of the slips that there are, by KIND. */
    private Map<Integer, Integer> slips(int pack, int i) {
        Pack p = packs.get(pack);
        int place = i / p.per;
        int role = i % p.per;
        Spot s = p.spots.get(place);
        Map<Integer, Integer> m = new LinkedHashMap<>();
        Integer ghost = null;
        for (int o : putOrder) {
            if (o == pack) {
                break;
            }
            Integer c = packs.get(o).atDoor(p.house, s.door, role);
            ghost = c != null ? c : ghost;
        }
        if (ghost != null) {
            m.put(2, ghost);
        }
        int[] looks = houses.get(p.house);
        for (int k = p.spots.size() - 1; k >= 0; k--) {
            Spot t = p.spots.get(k);
            if (k != place && looks[t.door] == looks[s.door] && role < t.cards.size()) {
                m.put(3, t.cards.get(role));
            }
        }
        if (s.cards.size() >= 2) {
            m.put(4, s.cards.get((role + 1) % s.cards.size()));
        }
        if (place + 1 < p.spots.size() && role < p.spots.get(place + 1).cards.size()) {
            m.put(5, p.spots.get(place + 1).cards.get(role));
        } else if (place > 0) {
            m.put(5, p.spots.get(place - 1).cards.get(role));
        }
        return m;
    }

    private int kind(int pack, int i) {
        Pack p = packs.get(pack);
        if (p.said[i] == p.cards[i]) {
            return 0;
        }
        if (p.said[i] == NONE) {
            return 1;
        }
        Map<Integer, Integer> m = slips(pack, i);
        for (int k = 2; k <= 5; k++) {
            if (m.containsKey(k) && m.get(k) == p.said[i]) {
                return k;
            }
        }
        return 6;
    }

    private static final int[] WEIGHT = {0, 3, 3, 2, 2, 1};

    private int seed;

    private int draw() {
        seed = (int) (1103515245L * seed + 12345L);
        return (seed >> 16) & 0x7fff;
    }

    private long runs(Words law, int pack) {
        Pack p = packs.get(pack);
        for (int i = 0; i < p.cards.length; i++) {
            if (draw() % 100 < holds(law, pack, i)) {
                p.said[i] = p.cards[i];
                continue;
            }
            List<Integer> lots = new ArrayList<>();
            Map<Integer, Integer> m = slips(pack, i);
            for (int k = 2; k <= 5; k++) {
                for (int n = 0; n < WEIGHT[k] && m.containsKey(k); n++) {
                    lots.add(m.get(k));
                }
            }
            for (int n = 0; n < 3; n++) {
                lots.add(NONE);
            }
            p.said[i] = lots.get(draw() % lots.size());
        }
        return p.right();
    }

    private static long part(long above, long below, boolean wantBelow) {
        BigInteger a = BigInteger.valueOf(above);
        BigInteger b = BigInteger.valueOf(below);
        BigInteger g = a.gcd(b);
        return (wantBelow ? b : a).divide(g).longValueExact();
    }

    private static long score(Words rule, Pack p) {
        Map<String, Long> f = new HashMap<>();
        f.put("right", (long) p.right());
        f.put("blank", (long) p.blank());
        f.put("wrong", (long) (p.cards.length - p.right() - p.blank()));
        f.put("cards", (long) p.cards.length);
        f.put("tag whole", p.right() == p.cards.length ? 1L : 0L);
        return rule.tell(f);
    }

    private long speak(String name, int[] a) {
        switch (name) {
            case "about": {
                Pack p = needCard(a[0], a[1]);
                need(p.put, STATE);
                Map<String, Long> f = lawFacts(a[0], a[1]);
                switch (a[2]) {
                    case 0:
                        return a[1] / p.per;
                    case 1:
                        return p.spots.get(a[1] / p.per).door;
                    case 2:
                        return f.get("role");
                    case 3:
                        return f.get("age");
                    case 4:
                        return f.get("old");
                    case 5:
                        return f.get("like");
                    case 6:
                        return f.get("dull");
                    case 7:
                        return p.said[a[1]];
                    default:
                        throw new Refused(NOSUCH);
                }
            }
            case "holds":
                needLaw(a[0]);
                need(needCard(a[1], a[2]).put, STATE);
                return holds(laws.get(a[0]), a[1], a[2]);
            case "awaited":
                needLaw(a[0]);
                need(needPack(a[1]).put, STATE);
                return awaited(laws.get(a[0]), a[1]);
            case "say": {
                Pack p = needCard(a[0], a[1]);
                need(within(a[2], -1, 51), OUT);
                need(p.put, STATE);
                p.said[a[1]] = a[2];
                return kind(a[0], a[1]);
            }
            case "kind":
                need(needCard(a[0], a[1]).put, STATE);
                return kind(a[0], a[1]);
            case "run":
                needLaw(a[0]);
                need(needPack(a[1]).put, STATE);
                seed = a[2];
                return runs(laws.get(a[0]), a[1]);
            case "odds": {
                needLaw(a[0]);
                need(needCard(a[1], a[2]).put, STATE);
                need(within(a[3], 0, 5), ARG);
                int h = holds(laws.get(a[0]), a[1], a[2]);
                Map<Integer, Integer> m = slips(a[1], a[2]);
                m.put(1, NONE);
                int all = 0;
                for (int k : m.keySet()) {
                    all += WEIGHT[k];
                }
                long above = a[3] == 0 ? (long) h * all : (100L - h) * (m.containsKey(a[3]) ? WEIGHT[a[3]] : 0);
                return part(above, 100L * all, a[4] == 1);
            }
            case "kinds": {
                Pack p = needPack(a[0]);
                need(p.put, STATE);
                need(within(a[1], 0, 6), ARG);
                int n = 0;
                for (int i = 0; i < p.cards.length; i++) {
                    n += kind(a[0], i) == a[1] ? 1 : 0;
                }
                return n;
            }
            case "score":
                needRule(a[0]);
                need(needPack(a[1]).put, STATE);
                return score(rules.get(a[0]), packs.get(a[1]));
            case "fits": {
                Pack p = needPack(a[0]);
                need(p.put, STATE);
                need(within(a[1], 0, 5200), ARG);
                int bits = 0;
                for (int l = 0; l < laws.size(); l++) {
                    int off = awaited(laws.get(l), a[0]) - 100 * p.right();
                    bits += off <= a[1] && -off <= a[1] ? 1 << l : 0;
                }
                return bits;
            }
            case "lacks": {
                Pack p = needPack(a[0]);
                need(p.put, STATE);
                need(a[1] >= -1, ARG);
                List<Integer> l = p.lacking();
                return a[1] == -1 ? l.size() : a[1] < l.size() ? l.get(a[1]) : NONE;
            }
            default: {
                needRule(a[0]);
                Pack p = needPack(a[1]);
                need(p.put, STATE);
                need(within(a[2], 0, 2), NOSUCH);
                return guess(rules.get(a[0]), p, a[2]);
            }
        }
    }

    private long guess(Words rule, Pack p, int what) {
        List<Integer> lacking = p.lacking();
        List<Integer> pool = lacking.subList(0, Math.min(6, lacking.size()));
        int best = NONE;
        long[] bestPart = {0, 1};
        for (int g = 0; g <= 5 && g <= p.blank() && g <= lacking.size(); g++) {
            long[] sumAndWays = {0, 0};
            fill(rule, p.copy(), pool, new ArrayList<>(), g, sumAndWays);
            if (best == NONE || sumAndWays[0] * bestPart[1] > bestPart[0] * sumAndWays[1]) {
                best = g;
                bestPart = sumAndWays;
            }
        }
        return what == 0 ? best : part(bestPart[0], bestPart[1], what == 2);
    }

    private static void fill(Words rule, Pack p, List<Integer> pool, List<Integer> used, int g, long[] to) {
        if (used.size() == g) {
            to[0] += score(rule, p);
            to[1]++;
            return;
        }
        int blank = 0;
        while (p.said[blank] != NONE) {
            blank++;
        }
        for (int c : pool) {
            if (!used.contains(c)) {
                used.add(c);
                p.said[blank] = c;
                fill(rule, p, pool, used, g, to);
                p.said[blank] = NONE;
                used.remove(used.size() - 1);
            }
        }
    }

    /** AWAITED of a PACK in a world where it is PUT just now, last of all, from DOOR 0 on; NONE without room. */
    private int ifPut(Words law, int pack, int house, int per, int seconds) {
        Model m = copy();
        m.putOrder.remove((Integer) pack);
        m.putOrder.add(pack);
        Pack p = m.packs.get(pack);
        p.layOut(house, 0, per, seconds);
        if (p.spots.size() > houses.get(house).length) {
            return NONE;
        }
        for (Spot s : p.spots) {
            s.touched = clock;
        }
        return m.awaited(law, pack);
    }

    private long ponder(String name, int[] a) {
        switch (name) {
            case "moment":
                need(a[0] > (moments.isEmpty() ? 0 : moments.get(moments.size() - 1)) && a[0] <= 99999, ARG);
                need(moments.size() < 6, UNSUP);
                moments.add(a[0]);
                return moments.size();
            case "moments": {
                int n = moments.size();
                moments.clear();
                return n;
            }
            case "again":
                needLaw(a[0]);
                need(needPack(a[1]).put, STATE);
                need(a[2] >= 0 && within(a[3], 0, 99999), ARG);
                need(moments.isEmpty() || a[3] >= moments.get(moments.size() - 1), ARG);
                return again(laws.get(a[0]), a[1], a[2], a[3], a[4] == 1);
            case "houses": {
                needLaw(a[0]);
                need(within(a[1], 1, 60) && within(a[2], 1, 60) && within(a[3], 0, 100), ARG);
                for (int h = 1; h <= 20; h++) {
                    int[] in = new int[h];
                    int old = 0;
                    for (int p = 0; p < a[1]; p++) {
                        old = in[p % h]++;
                    }
                    Map<String, Long> f = new HashMap<>();
                    for (String s : List.of("dull", "like", "age", "gone", "role", "tag first", "tag last")) {
                        f.put(s, 0L);
                    }
                    f.put("old", (long) old);
                    f.put("seconds", (long) a[2]);
                    f.put("per", 3L);
                    if (Math.max(0, Math.min(100, laws.get(a[0]).tell(f))) >= a[3]) {
                        return h;
                    }
                }
                return NONE;
            }
            case "unlike": {
                List<Integer> looks = new ArrayList<>();
                for (int h = 0; h < houses.size(); h++) {
                    if ((a[0] & 1 << h) != 0) {
                        for (int l : houses.get(h)) {
                            looks.add(l);
                        }
                    }
                }
                int pairs = 0;
                for (int i = 0; i < looks.size(); i++) {
                    for (int j = 0; j < i; j++) {
                        pairs += looks.get(i).equals(looks.get(j)) ? 1 : 0;
                    }
                }
                return a[1] == 1 ? pairs : looks.stream().distinct().count();
            }
            case "per": {
                needLaw(a[0]);
                Pack p = needPack(a[1]);
                need(a[2] >= 0 && a[2] < houses.size(), OUT);
                need(within(a[3], 1, 9999), ARG);
                int best = NONE;
                int most = NONE;
                for (int per = 3; per >= 1; per--) {
                    int places = p.cards.length / per + (p.cards.length % per > 0 ? 1 : 0);
                    int each = Math.min(60, a[3] / places);
                    int sum = each == 0 ? NONE : ifPut(laws.get(a[0]), a[1], a[2], per, each);
                    if (sum != NONE && sum >= most) {
                        most = sum;
                        best = per;
                    }
                }
                return a[4] == 1 ? most : best;
            }
            case "plan":
                return plan(a);
            case "last": {
                needLaw(a[0]);
                need(within(a[2], 0, 9999), ARG);
                Model m = copy();
                m.clock += a[2];
                int best = NONE;
                int least = 0;
                for (int p = packs.size() - 1; p >= 0; p--) {
                    if ((a[1] & 1 << p) != 0 && packs.get(p).put) {
                        int more = awaited(laws.get(a[0]), p) - m.awaited(laws.get(a[0]), p);
                        if (best == NONE || more <= least) {
                            best = p;
                            least = more;
                        }
                    }
                }
                return best;
            }
            default:
                return remain(name, a);
        }
    }

    private long again(Words law, int pack, int most, int end, boolean gain) {
        int bestSet = 0;
        int bestSum = NONE;
        int without = 0;
        for (int size = 0; size <= 6 && size <= most; size++) {
            for (int set = 0; set < 64; set++) {
                if (Integer.bitCount(set) != size || set >> moments.size() != 0) {
                    continue;
                }
                Model m = copy();
                for (int k = 0; k < moments.size(); k++) {
                    if ((set & 1 << k) != 0) {
                        m.packs.get(pack).gone++;
                        for (Spot s : m.packs.get(pack).spots) {
                            s.touched = clock + moments.get(k);
                        }
                    }
                }
                m.clock += end;
                int sum = m.awaited(law, pack);
                without = set == 0 ? sum : without;
                if (sum > bestSum) {
                    bestSum = sum;
                    bestSet = set;
                }
            }
        }
        return gain ? bestSum - without : bestSet;
    }

    private long plan(int[] a) {
        needLaw(a[0]);
        need(within(a[4], -1, packs.size() - 1), OUT);
        List<Integer> set = new ArrayList<>();
        for (int bit = 0; bit < 32; bit++) {
            if ((a[1] & 1 << bit) != 0) {
                need(bit < packs.size() && !packs.get(bit).put, ARG);
                set.add(bit);
            }
        }
        need(set.size() <= 5 && within(a[2], 1, 3) && within(a[3], 1, 60), ARG);
        int[][] worth = new int[set.size()][houses.size()];
        for (int k = 0; k < set.size(); k++) {
            for (int h = 0; h < houses.size(); h++) {
                worth[k][h] = ifPut(laws.get(a[0]), set.get(k), h, a[2], a[3]);
            }
        }
        int all = 1;
        for (int k = 0; k < set.size(); k++) {
            all *= houses.size();
        }
        int bestSum = NONE;
        int[] best = null;
        for (int n = 0; n < all; n++) {
            int[] to = new int[set.size()];
            int rest = n;
            for (int k = set.size() - 1; k >= 0; k--) {
                to[k] = rest % houses.size();
                rest /= houses.size();
            }
            boolean good = Arrays.stream(to).distinct().count() == to.length;
            int sum = 0;
            for (int k = 0; k < to.length; k++) {
                good &= worth[k][to[k]] != NONE;
                sum += worth[k][to[k]];
            }
            if (good && sum > bestSum) {
                bestSum = sum;
                best = to;
            }
        }
        if (best == null || a[4] == NONE) {
            return bestSum;
        }
        return set.contains(a[4]) ? best[set.indexOf(a[4])] : NONE;
    }

    private long remain(String name, int[] a) {
        switch (name) {
            case "chance":
                need(within(a[0], 1, 6) && within(a[1], 0, 100), ARG);
                chances[a[0]] = a[1];
                return 0;
            case "risk": {
                need(within(a[0], 0, 6), ARG);
                int best = 0;
                long most = -1;
                for (int n = 1; n <= 6; n++) {
                    long odds = 0;
                    for (int set = 0; set < 1 << n; set++) {
                        long part = 1;
                        for (int k = 0; k < 6; k++) {
                            part *= k >= n ? 100 : (set & 1 << k) != 0 ? chances[n] : 100 - chances[n];
                        }
                        odds += Integer.bitCount(set) >= a[0] ? part : 0;
                    }
                    if (odds > most) {
                        most = odds;
                        best = n;
                    }
                }
                return a[1] == 1 ? most : best;
            }
            case "week":
                need(within(a[0], 0, 9999), ARG);
                need(weeks.size() < 20, UNSUP);
                weeks.add(a[0]);
                return weeks.size();
            case "rates":
                need(within(a[0], 0, 9999), ARG);
                need(within(a[1], 0, 4), NOSUCH);
                return rates(a[0], a[1]);
            case "dullest": {
                int best = NONE;
                double most = 0;
                for (int c = 0; c < 52; c++) {
                    int times = 0;
                    int not = 0;
                    for (Pack p : packs) {
                        for (int i = 0; i < p.cards.length; i++) {
                            if (p.put && p.cards[i] == c) {
                                times++;
                                not += p.said[i] == c ? 0 : 1;
                            }
                        }
                    }
                    if (times > 0 && (double) not / times > most) {
                        most = (double) not / times;
                        best = c;
                    }
                }
                return best;
            }
            case "change":
                needLaw(a[0]);
                return change(laws.get(a[0]));
            case "image":
                image = copy();
                return 0;
            case "back":
                if (image == null) {
                    return 0;
                }
                takeFrom(image);
                return 1;
            default:
                return count(a[0]);
        }
    }

    private long rates(int goal, int what) {
        List<Integer> good = new ArrayList<>();
        for (int r = 0; r <= 100; r++) {
            boolean all = true;
            for (int k = 1; k < weeks.size(); k++) {
                all &= Math.abs(after(weeks.get(k - 1), goal, r) - weeks.get(k)) <= 1;
            }
            if (all) {
                good.add(r);
            }
        }
        if (what == 0) {
            return good.size();
        }
        if (good.isEmpty()) {
            return NONE;
        }
        if (what < 3) {
            return good.get(what == 1 ? 0 : good.size() - 1);
        }
        if (weeks.isEmpty()) {
            return NONE;
        }
        int now = weeks.get(weeks.size() - 1);
        return what == 3 ? good.stream().mapToInt(r -> after(now, goal, r)).min().getAsInt()
                : good.stream().mapToInt(r -> after(now, goal, r)).max().getAsInt();
    }

    private static int after(int week, int goal, int rate) {
        return week + (int) Math.floor((double) (rate * (goal - week)) / 100);
    }

    private int awaitedOfAll(Words law) {
        int sum = 0;
        for (int p : putOrder) {
            sum += awaited(law, p);
        }
        return sum;
    }

    private long change(Words law) {
        int base = awaitedOfAll(law);
        int best = NONE;
        int most = base;
        for (int x = 0; x < 52; x++) {
            for (int y = x + 1; y < 52; y++) {
                if (Arrays.equals(dull[x], dull[y])) {
                    continue;
                }
                int[] row = dull[x];
                dull[x] = dull[y];
                dull[y] = row;
                int sum = awaitedOfAll(law);
                dull[y] = dull[x];
                dull[x] = row;
                if (sum > most) {
                    most = sum;
                    best = 52 * x + y;
                }
            }
        }
        return best;
    }

    private long count(int what) {
        switch (what) {
            case 0:
                return houses.size();
            case 1:
                return houses.stream().mapToInt(h -> h.length).sum();
            case 2:
                return packs.size();
            case 3:
                return packs.stream().filter(p -> p.put).count();
            case 4:
                return clock;
            case 5:
                return laws.size();
            case 6:
                return rules.size();
            case 7:
                return weeks.size();
            case 8:
                return moments.size();
            case 9:
                return packs.stream().mapToInt(Pack::right).sum();
            default:
                return NONE;
        }
    }
}
