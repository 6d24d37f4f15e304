import java.util.ArrayList;
import java.util.Arrays;
import java.util.Comparator;
import java.util.HashMap;
import java.util.HashSet;
import java.util.LinkedHashMap;
import java.util.List;
import java.util.Map;
import java.util.Set;
import java.util.TreeMap;

/**
 * The document told a second time, in another way (trees, copies, all ways tried), for the random test
 * to compare with. It has the same face as BellRingers.
 */
final class Oracle {
    static final Set<String> WORDS = Set.of("person", "has", "bell", "hour", "loses", "weighs", "faces", "draw",
        "or", "and", "not", "loss", "rung", "here", "day");

    // ---- the text

    interface Node {
        int of(Map<String, Integer> values);
    }

    static final class Fault extends RuntimeException {
        private static final long serialVersionUID = 1L;
        final int kind;
        final int place;

        Fault(int kind, int place) {
            this.kind = kind;
            this.place = place;
        }
    }

    static final class Token {
        final String text;
        final int place;
        final boolean good;

        Token(String text, int place, boolean good) {
            this.text = text;
            this.place = place;
            this.good = good;
        }

        boolean isNumber() {
            return good && text.matches("[0-9]+");
        }

        boolean isName() {
            return good && text.matches("[a-z]+") && !WORDS.contains(text);
        }
    }

    static final class Told {
        final LinkedHashMap<String, Integer> people = new LinkedHashMap<>();
        final LinkedHashMap<String, Integer> bells = new LinkedHashMap<>();
        final LinkedHashMap<List<Integer>, Integer> loses = new LinkedHashMap<>();
        List<Integer> last = null;
        Node weighs = null;
        int units = 0;
        int faces = 0;
        int draw = 0;
    }

    static List<Token> cut(String text) {
        List<Token> tokens = new ArrayList<>();
        int i = 0;
        while (i < text.length()) {
            char c = text.charAt(i);
            int j = i + 1;
            if (c == ' ' || c == '\n') {
                i++;
                continue;
            }
            boolean good;
            if (c >= 'a' && c <= 'z') {
                while (j < text.length() && text.charAt(j) >= 'a' && text.charAt(j) <= 'z') {
                    j++;
                }
                good = j - i <= 8;
            } else if (c >= '0' && c <= '9') {
                while (j < text.length() && text.charAt(j) >= '0' && text.charAt(j) <= '9') {
                    j++;
                }
                good = j - i <= 4 && !(j < text.length() && text.charAt(j) >= 'a' && text.charAt(j) <= 'z');
            } else {
                good = ";()<>=+-*/%".indexOf(c) >= 0;
            }
            tokens.add(new Token(text.substring(i, j), i, good));
            i = j;
        }
        tokens.add(new Token("", text.length(), true));
        return tokens;
    }

    static final class Parser {
        final List<Token> tokens;
        final Told told = new Told();
        final Set<String> once = new HashSet<>();
        int at = 0;

        Parser(String text) {
            tokens = cut(text);
        }

        Token look() {
            return tokens.get(at);
        }

        Fault wrong(int kind) {
            return new Fault(look().good ? kind : 1, look().place);
        }

        boolean is(String... texts) {
            return look().good && Arrays.asList(texts).contains(look().text);
        }

        String word(String text) {
            if (!is(text)) {
                throw wrong(2);
            }
            return tokens.get(at++).text;
        }

        int number(int least, int most) {
            if (!look().isNumber()) {
                throw wrong(2);
            }
            int n = Integer.parseInt(look().text);
            if (n < least || n > most) {
                throw wrong(4);
            }
            at++;
            return n;
        }

        String fresh(Map<String, Integer> of) {
            if (!look().isName()) {
                throw wrong(2);
            }
            if (of.containsKey(look().text)) {
                throw wrong(3);
            }
            return tokens.get(at++).text;
        }

        int known(Map<String, Integer> of) {
            if (!look().isName()) {
                throw wrong(2);
            }
            int i = new ArrayList<>(of.keySet()).indexOf(look().text);
            if (i < 0) {
                throw wrong(5);
            }
            return i;
        }

        Told all() {
            while (at < tokens.size() - 1) {
                String first = look().text;
                if (is("person") && told.people.size() < 6) {
                    at++;
                    String name = fresh(told.people);
                    word("has");
                    told.people.put(name, number(0, 999));
                } else if (is("bell") && told.bells.size() < 5) {
                    at++;
                    String name = fresh(told.bells);
                    word("hour");
                    told.bells.put(name, number(0, 23));
                } else if (is("loses") && told.loses.size() < 20) {
                    at++;
                    int person = known(told.people);
                    at++;
                    List<Integer> two = List.of(person, known(told.bells));
                    if (told.loses.containsKey(two)) {
                        throw wrong(3);
                    }
                    at++;
                    told.loses.put(two, number(1, 20));
                    told.last = two;
                } else if (is("weighs", "faces", "draw") && once.add(first)) {
                    at++;
                    switch (first) {
                        case "weighs" -> told.weighs = e(0);
                        case "faces" -> told.faces = number(0, 100);
                        default -> told.draw = number(0, 999);
                    }
                } else {
                    throw wrong(2);
                }
                word(";");
            }
            return told;
        }

        Node e(int depth) {
            Node left = both(depth);
            while (is("or")) {
                at++;
                Node a = left;
                Node b = both(depth);
                left = v -> a.of(v) != 0 | b.of(v) != 0 ? 1 : 0;
            }
            return left;
        }

        Node both(int depth) {
            Node left = one(depth);
            while (is("and")) {
                at++;
                Node a = left;
                Node b = one(depth);
                left = v -> a.of(v) != 0 & b.of(v) != 0 ? 1 : 0;
            }
            return left;
        }

        Node one(int depth) {
            if (is("not")) {
                if (depth > 6) {
                    throw wrong(2);
                }
                at++;
                Node a = one(depth + 1);
                return v -> a.of(v) == 0 ? 1 : 0;
            }
            Node a = sum(depth);
            if (!is("<", ">", "=")) {
                return a;
            }
            String sign = tokens.get(at++).text;
            Node b = sum(depth);
            return switch (sign) {
                case "<" -> v -> a.of(v) < b.of(v) ? 1 : 0;
                case ">" -> v -> a.of(v) > b.of(v) ? 1 : 0;
                default -> v -> a.of(v) == b.of(v) ? 1 : 0;
            };
        }

        Node sum(int depth) {
            Node left = term(depth);
            while (is("+", "-")) {
                boolean plus = tokens.get(at++).text.equals("+");
                Node a = left;
                Node b = term(depth);
                left = plus ? v -> (int) ((long) a.of(v) + b.of(v)) : v -> (int) ((long) a.of(v) - b.of(v));
            }
            return left;
        }

        Node term(int depth) {
            Node left = unit(depth);
            while (is("*", "/", "%")) {
                String sign = tokens.get(at++).text;
                Node a = left;
                Node b = unit(depth);
                left = switch (sign) {
                    case "*" -> v -> (int) ((long) a.of(v) * b.of(v));
                    case "/" -> v -> b.of(v) == 0 ? 0 : (int) ((long) a.of(v) / b.of(v));
                    default -> v -> b.of(v) == 0 ? 0 : (int) ((long) a.of(v) % b.of(v));
                };
            }
            return left;
        }

        Node unit(int depth) {
            if (told.units == 30) {
                throw wrong(2);
            }
            if (look().isNumber()) {
                told.units++;
                int n = number(0, 9999);
                return v -> n;
            }
            if (is("loss", "has", "rung", "hour", "here", "day")) {
                told.units++;
                String word = tokens.get(at++).text;
                return v -> v.get(word);
            }
            if (is("(") && depth <= 6) {
                told.units++;
                at++;
                Node inner = e(depth + 1);
                word(")");
                return inner;
            }
            throw wrong(2);
        }
    }

    // ---- what is so

    static final class Now {
        int[] has;
        int[] rang;
        boolean[] here;
        int[][] loss;
        int day;
        int seed;

        Now copy() {
            Now n = new Now();
            n.has = has.clone();
            n.rang = rang.clone();
            n.here = here.clone();
            n.loss = new int[loss.length][];
            for (int i = 0; i < loss.length; i++) {
                n.loss[i] = loss[i].clone();
            }
            n.day = day;
            n.seed = seed;
            return n;
        }

        int bits() {
            int b = 0;
            for (int i = 0; i < here.length; i++) {
                b += here[i] ? 1 << i : 0;
            }
            return b;
        }

        Now without(int... away) {
            Now n = copy();
            for (int p : away) {
                n.here[p] = false;
            }
            return n;
        }
    }

    record Passed(Now after, int[] who, int lost) {
    }

    record Saw(int day, int bell, int person, boolean is, int at, int[] until) {
    }

    private final StringBuilder tape = new StringBuilder();
    private Told told = new Told();
    private Now now = start(null);
    private final List<Now> past = new ArrayList<>();
    private final List<Now> future = new ArrayList<>();
    private List<Integer> lying = List.of();
    private final List<Saw> saws = new ArrayList<>();
    private final Map<Integer, Now> boxes = new HashMap<>();
    private int time = 0;
    private int faultKind = 0;
    private int faultPlace = -1;

    private Now start(Integer unknown) {
        Now n = new Now();
        n.has = told.people.values().stream().mapToInt(i -> i).toArray();
        n.rang = new int[n.has.length];
        n.here = new boolean[n.has.length];
        Arrays.fill(n.here, true);
        n.loss = new int[n.has.length][told.bells.size()];
        told.loses.forEach((two, much) -> n.loss[two.get(0)][two.get(1)] = much);
        if (unknown != null) {
            n.loss[told.last.get(0)][told.last.get(1)] = unknown;
        }
        n.seed = told.draw;
        return n;
    }

    private int people() {
        return told.people.size();
    }

    private int bells() {
        return told.bells.size();
    }

    private boolean one(int p) {
        return p >= 0 && p < people();
    }

    private boolean any(int b) {
        return b >= 0 && b < bells();
    }

    private static boolean in(int n, int a, int b) {
        return a <= n && n <= b;
    }

    private int weigh(Now n, int p, int b) {
        if (told.weighs == null) {
            return n.loss[p][b] - n.rang[p];
        }
        return told.weighs.of(Map.of("loss", n.loss[p][b], "has", n.has[p], "rung", n.rang[p], "hour", hour(b),
            "here", Integer.bitCount(n.bits()), "day", n.day));
    }

    private int who(Now n, int b) {
        int best = -1;
        for (int p = people() - 1; p >= 0; p--) {
            if (n.here[p] && n.loss[p][b] > 0 && weigh(n, p, b) > 0
                && (best < 0 || weigh(n, p, b) >= weigh(n, best, b))) {
                best = p;
            }
        }
        return best;
    }

    private Passed pass(Now from, boolean faces, List<Integer> order) {
        Now n = from.copy();
        int[] who = new int[bells()];
        int before = Arrays.stream(n.has).sum();
        for (int b : order) {
            int p = who(n, b);
            who[b] = p;
            if (p < 0) {
                continue;
            }
            n.rang[p] = Math.min(999, n.rang[p] + 1);
            n.has[p] = Math.max(0, n.has[p] - n.loss[p][b]);
            if (faces) {
                n.seed = (137 * n.seed + 71) % 1000;
                if (n.seed % 100 < told.faces) {
                    n.loss[p][b] = 0;
                }
            }
        }
        n.day++;
        return new Passed(n, who, before - Arrays.stream(n.has).sum());
    }

    private List<Integer> asTold() {
        List<Integer> l = new ArrayList<>();
        for (int b = 0; b < bells(); b++) {
            l.add(b);
        }
        return l;
    }

    private Passed pass(Now from) {
        return pass(from, false, asTold());
    }

    /** The days from 1 on; at 0 what is so. */
    private List<Passed> days(Now from, int n, boolean faces) {
        List<Passed> l = new ArrayList<>();
        l.add(new Passed(from, new int[0], 0));
        for (int i = 0; i < n; i++) {
            l.add(pass(l.get(i).after, faces, asTold()));
        }
        return l;
    }

    private static int rung(Passed d, int p) {
        int b = 0;
        for (int i = 0; i < d.who.length; i++) {
            b |= d.who[i] == p ? 1 << i : 0;
        }
        return b;
    }

    // ---- the face

    public int feed(int a, int b, int c, int d, int e) {
        if (tape.length() > 1580) {
            return -1;
        }
        for (int n : new int[] {a, b, c, d, e}) {
            tape.append((char) (n >>> 24)).append((char) (n >>> 16 & 255));
            tape.append((char) (n >>> 8 & 255)).append((char) (n & 255));
        }
        return tape.length();
    }

    public int end(int n) {
        if (!in(n, 0, tape.length())) {
            return -1;
        }
        tape.setLength(n);
        return n;
    }

    public int village() {
        String text = tape.toString();
        tape.setLength(0);
        try {
            told = new Parser(text).all();
        } catch (Fault f) {
            faultKind = f.kind;
            faultPlace = f.place;
            return -1;
        }
        faultKind = 0;
        faultPlace = -1;
        now = start(null);
        past.clear();
        future.clear();
        saws.clear();
        boxes.clear();
        lying = List.of();
        return people();
    }

    public int fault(int what) {
        return what == 0 ? faultKind : what == 1 ? faultPlace : -1;
    }

    public int person(int p, int what) {
        if (!one(p) || !in(what, 0, 4)) {
            return -1;
        }
        int feared = 0;
        for (int b = 0; b < bells(); b++) {
            feared |= now.loss[p][b] > 0 ? 1 << b : 0;
        }
        return new int[] {now.has[p], now.rang[p], now.here[p] ? 1 : 0, feared, rung(pass(now), p)}[what];
    }

    public int loss(int p, int b) {
        return one(p) && any(b) ? now.loss[p][b] : -1;
    }

    public int weight(int p, int b) {
        return one(p) && any(b) ? weigh(now, p, b) : -1000000000;
    }

    public int ringer(int b) {
        return any(b) ? who(now, b) : -2;
    }

    public int hour(int b) {
        return any(b) ? new ArrayList<>(told.bells.values()).get(b) : -1;
    }

    private void act(Now next) {
        past.add(now);
        if (past.size() > 40) {
            past.remove(0);
        }
        future.clear();
        now = next;
    }

    public int day() {
        if (now.day == 999) {
            return -1;
        }
        Passed d = pass(now, true, asTold());
        act(d.after);
        return d.lost;
    }

    public int want(int p, int b, int much) {
        if (!one(p) || !any(b) || !in(much, 0, 20) || now.loss[p][b] == much) {
            return -1;
        }
        int was = now.loss[p][b];
        Now n = now.copy();
        n.loss[p][b] = much;
        act(n);
        return was;
    }

    public int leave(int p) {
        if (!one(p) || !now.here[p]) {
            return -1;
        }
        act(now.without(p));
        return Integer.bitCount(now.bits());
    }

    public int come(int p) {
        if (!one(p) || now.here[p]) {
            return -1;
        }
        Now n = now.copy();
        n.here[p] = true;
        act(n);
        return Integer.bitCount(now.bits());
    }

    public int gift(int p, int more) {
        if (!one(p) || !in(more, 1, 99) || now.has[p] == 999) {
            return -1;
        }
        Now n = now.copy();
        n.has[p] = Math.min(999, n.has[p] + more);
        act(n);
        return n.has[p];
    }

    public boolean undo() {
        if (past.isEmpty()) {
            return false;
        }
        future.add(now);
        now = past.remove(past.size() - 1);
        return true;
    }

    public boolean redo() {
        if (future.isEmpty()) {
            return false;
        }
        past.add(now);
        now = future.remove(future.size() - 1);
        return true;
    }

    public int will(int b, int n, int what) {
        if (!any(b) || !in(n, 1, 60) || !in(what, 0, 1)) {
            return -2;
        }
        return days(now, n, what == 1).get(n).who[b];
    }

    public int purse(int p, int n) {
        return one(p) && in(n, 0, 60) ? days(now, n, false).get(n).after.has[p] : -1;
    }

    public int cost(int n) {
        return in(n, 0, 60) ? days(now, n, false).stream().mapToInt(Passed::lost).sum() : -1;
    }

    private void orders(List<Integer> head, List<List<Integer>> all) {
        if (head.size() == bells()) {
            all.add(head);
        }
        for (int b = 0; b < bells(); b++) {
            if (!head.contains(b)) {
                List<Integer> longer = new ArrayList<>(head);
                longer.add(b);
                orders(longer, all);
            }
        }
    }

    public int order() {
        List<List<Integer>> all = new ArrayList<>();
        orders(List.of(), all);
        Comparator<List<Integer>> byCost = Comparator.comparing(o -> pass(now, false, o).lost);
        lying = all.stream().min(byCost.thenComparing(Object::toString)).get();
        return pass(now, false, lying).lost;
    }

    public int duties(int what) {
        if (!in(what, 0, 1)) {
            return -1;
        }
        int ways = 1;
        for (int b = 0; b < bells(); b++) {
            ways *= people() + 1;
        }
        int best = Integer.MIN_VALUE;
        int[] found = new int[2];
        for (int way = 0; way < ways; way++) {
            int rest = way;
            Integer[] has = new Integer[bells()];
            for (int b = bells() - 1; b >= 0; b--) {
                has[b] = rest % (people() + 1);
                rest /= people() + 1;
            }
            int count = 0;
            int sum = 0;
            Set<Integer> used = new HashSet<>();
            boolean can = true;
            for (int b = 0; b < bells(); b++) {
                if (has[b] == people()) {
                    has[b] = -1;
                } else {
                    can &= used.add(has[b]) && now.here[has[b]] && now.loss[has[b]][b] > 0;
                    count++;
                    sum += now.loss[has[b]][b];
                }
            }
            if (can && count * 1000 - sum > best) {
                best = count * 1000 - sum;
                found = new int[] {count, sum};
                lying = List.of(has);
            }
        }
        return found[what];
    }

    private int fewest(java.util.function.IntPredicate does) {
        int here = now.bits();
        TreeMap<Integer, Integer> found = new TreeMap<>();
        for (int set = 0; set < 64; set++) {
            if ((set & here) == set && does.test(set)) {
                found.putIfAbsent(Integer.bitCount(set), set);
            }
        }
        return found.firstEntry().getValue();
    }

    private static int[] members(int set) {
        return java.util.stream.IntStream.range(0, 6).filter(i -> (set >> i & 1) == 1).toArray();
    }

    public int hush(int what) {
        if (!in(what, 0, 1)) {
            return -1;
        }
        int set = fewest(s -> Arrays.stream(pass(now.without(members(s))).who).allMatch(p -> p < 0));
        return what == 0 ? Integer.bitCount(set) : set;
    }

    public int spare(int what) {
        if (!in(what, 0, 1) || now.bits() == 0) {
            return -1;
        }
        int[] all = members(now.bits());
        int least = Arrays.stream(all).map(p -> pass(now.without(p)).lost).min().getAsInt();
        int who = Arrays.stream(all).filter(p -> pass(now.without(p)).lost == least).findFirst().getAsInt();
        return what == 0 ? who : least;
    }

    private boolean sings(int set) {
        for (int b = 0; b < bells(); b++) {
            int bell = b;
            boolean needed = Arrays.stream(members(now.bits())).anyMatch(p -> now.loss[p][bell] > 0);
            if (needed && Arrays.stream(members(set)).noneMatch(p -> now.loss[p][bell] > 0)) {
                return false;
            }
        }
        return true;
    }

    public int chorus(int what) {
        if (!in(what, 0, 1)) {
            return -1;
        }
        int set = fewest(this::sings);
        return what == 0 ? Integer.bitCount(set) : set;
    }

    public int wish(int p, int b) {
        if (!one(p) || !any(b) || !now.here[p]) {
            return -1;
        }
        int found = -1;
        for (int much = 20; much > 0; much--) {
            Now n = now.copy();
            n.loss[p][b] = much;
            found = pass(n).who[b] == p ? much : found;
        }
        return found;
    }

    public int ruin(int p) {
        if (one(p)) {
            List<Passed> l = days(now, 60, false);
            for (int i = 0; i <= 60; i++) {
                if (l.get(i).after.has[p] == 0) {
                    return i;
                }
            }
        }
        return -1;
    }

    public int hides(int p) {
        if (!one(p) || !now.here[p]) {
            return -1;
        }
        int bits = 0;
        for (int b = 0; b < bells(); b++) {
            int would = pass(now.without(p)).who[b];
            if (would >= 0 && would != pass(now).who[b]) {
                bits |= 1 << would;
            }
        }
        return bits;
    }

    private int loses(int p, boolean here, int o, boolean otherHere) {
        if (!here) {
            return 3;
        }
        return now.has[p] - pass(otherHere ? now : now.without(o)).after.has[p];
    }

    public int staying(int p, int o) {
        lying = List.of();
        if (!one(p) || !one(o) || p == o || !now.here[p] || !now.here[o]) {
            return -1;
        }
        int rests = 0;
        for (boolean a : new boolean[] {false, true}) {
            for (boolean b : new boolean[] {false, true}) {
                if (loses(p, !a, o, b) >= loses(p, a, o, b) && loses(o, !b, p, a) >= loses(o, b, p, a)) {
                    if (rests++ == 0) {
                        lying = List.of(a ? 1 : 0, b ? 1 : 0);
                    }
                }
            }
        }
        return rests;
    }

    public int slight(int n) {
        if (!in(n, 0, 60)) {
            return -1;
        }
        int bits = now.bits();
        for (Passed d : days(now, n, false)) {
            for (int p : d.who) {
                bits &= p < 0 ? -1 : ~(1 << p);
            }
        }
        return bits;
    }

    public int list() {
        List<Integer> all = new ArrayList<>();
        for (int p = 0; p < people(); p++) {
            all.add(p);
        }
        all.sort(Comparator.comparing((Integer p) -> -now.rang[p]));
        lying = all;
        return people();
    }

    public int silent() {
        return rung(pass(now), -1);
    }

    public int dreaded() {
        int best = -1;
        int most = -1;
        for (int b = 0; b < bells(); b++) {
            int bell = b;
            int sum = Arrays.stream(members(now.bits())).map(p -> now.loss[p][bell]).sum();
            if (sum > most) {
                most = sum;
                best = b;
            }
        }
        return best;
    }

    public int untouched() {
        int bits = 0;
        for (int p = 0; p < people(); p++) {
            bits |= Arrays.stream(now.loss[p]).sum() == 0 ? 1 << p : 0;
        }
        return bits;
    }

    public int richest() {
        for (int much = 999; much >= 0; much--) {
            for (int p = 0; p < people(); p++) {
                if (now.has[p] == much) {
                    return p;
                }
            }
        }
        return -1;
    }

    public int busiest() {
        for (int many = 5; many > 0; many--) {
            for (int p = 0; p < people(); p++) {
                if (Integer.bitCount(rung(pass(now), p)) == many) {
                    return p;
                }
            }
        }
        return -1;
    }

    public int law(int n) {
        if (!in(n, 0, 20)) {
            return -1;
        }
        Now other = now.copy();
        for (int[] row : other.loss) {
            for (int b = 0; b < row.length; b++) {
                row[b] = row[b] > 0 ? n : 0;
            }
        }
        return (int) Arrays.stream(pass(other).who).filter(p -> p >= 0).count();
    }

    public int hushed(int b) {
        if (any(b)) {
            List<Passed> l = days(now, 60, false);
            for (int i = 1; i <= 60; i++) {
                if (l.get(i).who[b] < 0) {
                    return i;
                }
            }
        }
        return -1;
    }

    public int odds(int n, int part) {
        if (!in(n, 0, 4) || !in(part, 0, 1)) {
            return -1;
        }
        java.math.BigInteger up = java.math.BigInteger.valueOf(100 - told.faces).pow(n);
        java.math.BigInteger low = java.math.BigInteger.valueOf(100).pow(n);
        return (part == 0 ? up : low).divide(up.gcd(low)).intValueExact();
    }

    public int lies(int i) {
        return i >= 0 && i < lying.size() ? lying.get(i) : -2;
    }

    public int seen(int day, int b, int p, boolean is) {
        if (!in(day, 1, 12) || !any(b) || !one(p) || saws.size() == 30 || told.loses.isEmpty()) {
            return -1;
        }
        saws.add(new Saw(day, b, p, is, time, new int[] {-1}));
        return saws.size() - 1;
    }

    public boolean untell(int i) {
        if (i < 0 || i >= saws.size() || saws.get(i).until[0] >= 0) {
            return false;
        }
        saws.get(i).until[0] = time;
        return true;
    }

    public int later(int by) {
        if (!in(by, 0, 1000) || time + by > 100000) {
            return -1;
        }
        return time += by;
    }

    private List<Integer> fit(int k) {
        List<Integer> l = new ArrayList<>();
        for (int much = 0; much <= 20 && !told.loses.isEmpty(); much++) {
            List<Passed> d = days(start(much), 12, false);
            if (saws.stream().filter(s -> s.at <= k && !(s.until[0] >= 0 && s.until[0] <= k))
                .allMatch(s -> s.is == (d.get(s.day).who[s.bell] == s.person))) {
                l.add(much);
            }
        }
        return l;
    }

    public int fits(int k) {
        return fit(k).size();
    }

    public int sure(int what, int k) {
        List<Integer> l = fit(k);
        return l.isEmpty() || !in(what, 0, 1) ? -1 : l.get(what * (l.size() - 1));
    }

    public int ask(int day, int what, int k) {
        List<Integer> l = fit(k);
        if (l.isEmpty() || !in(day, 1, 12) || !in(what, 0, 1)) {
            return -1;
        }
        int best = -1;
        int least = 99;
        for (int b = 0; b < bells(); b++) {
            Map<Integer, Integer> groups = new HashMap<>();
            for (int much : l) {
                groups.merge(days(start(much), day, false).get(day).who[b], 1, Integer::sum);
            }
            int most = groups.values().stream().mapToInt(i -> i).max().getAsInt();
            if (most < least) {
                least = most;
                best = b;
            }
        }
        return what == 0 ? best : least;
    }

    public int image(int box) {
        if (!in(box, 0, 2)) {
            return -1;
        }
        boxes.put(box, now.copy());
        return now.day;
    }

    public int back(int box) {
        if (!boxes.containsKey(box)) {
            return -1;
        }
        now = boxes.get(box).copy();
        past.clear();
        future.clear();
        return now.day;
    }

    public int about(int what) {
        int[] all = {people(), bells(), told.loses.size(), now.bits(), now.day, now.seed, past.size(), future.size(),
            saws.size(), time, tape.length(), told.units, lying.size(), told.faces};
        return what >= 0 && what < all.length ? all[what] : -1;
    }
}
