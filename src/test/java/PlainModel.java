import java.util.ArrayList;
import java.util.HashMap;
import java.util.List;
import java.util.Map;
import java.util.TreeMap;

/** The document once more, written for plainness alone and in another way, to hold the class against. */
public final class PlainModel {
    private static final int[][] BEHIND = {{1, 2}, {3, 4}, {4, 5}, {-1, 6}, {6, 7}, {7, -1}, {-1, 8}, {8, -1}, {-1, -1}};
    private static final int[] UNDER = {-1, 0, 0, 1, 2, 0};

    private static final class Fellow {
        int kind, nerve, weight, sore, felled;
        boolean down;

        Fellow(int kind, int nerve, int weight, int sore) {
            this.kind = kind;
            this.nerve = nerve;
            this.weight = weight;
            this.sore = sore;
        }

        Fellow twin() {
            Fellow f = new Fellow(kind, nerve, weight, sore);
            f.felled = felled;
            f.down = down;
            return f;
        }

        int bears(int as, int plain, int topic, int others) {
            int above = as == 0 ? 0 : bears(UNDER[as], plain, topic, others);
            return switch (as) {
                case 0 -> topic == sore ? Math.max(plain - 20, 0) : plain;
                case 1 -> above + weight / 10;
                case 2 -> topic == 0 ? 99 : above;
                case 3 -> above + 5 * others;
                case 4 -> Math.max(above - 10, 0);
                default -> 99;
            };
        }

        int pushes(int as) {
            int above = as == 0 ? 0 : pushes(UNDER[as]);
            return switch (as) {
                case 0 -> weight;
                case 1 -> above + 15;
                case 2 -> above - 10;
                case 3 -> above / 2;
                case 4 -> above * 2;
                default -> 0;
            };
        }

        int worth(int as) {
            int above = as == 0 ? 0 : worth(UNDER[as]);
            return switch (as) {
                case 0 -> felled;
                case 1 -> above + weight;
                case 2 -> 99 - nerve;
                case 3 -> above * 5;
                case 4 -> above / 2;
                default -> 500;
            };
        }

        boolean is(int of) {
            for (int k = kind; k >= 0; k = UNDER[k]) {
                if (k == of) {
                    return true;
                }
            }
            return false;
        }
    }

    private interface Node {
        int value(Map<Character, Integer> names);
    }

    private static final class Law {
        int key, pieces;
        Node node;
    }

    private static final class World {
        List<Fellow> men = new ArrayList<>();
        List<Law> laws = new ArrayList<>();
        int fell, set, goes, go, z = 1;

        World twin() {
            World w = new World();
            for (Fellow f : men) {
                w.men.add(f.twin());
            }
            w.laws.addAll(laws);
            w.fell = fell;
            w.set = set;
            w.goes = goes;
            w.go = go;
            w.z = z;
            return w;
        }

        boolean stands(int m) {
            return m >= 0 && m < men.size() && !men.get(m).down;
        }

        int standing() {
            int n = 0;
            for (int m = 0; m < men.size(); m++) {
                n += stands(m) ? 1 : 0;
            }
            return n;
        }

        int lawOf(int key) {
            for (int i = laws.size() - 1; i >= 0; i--) {
                if (laws.get(i).key == key) {
                    return i;
                }
            }
            return -1;
        }

        int bears(int m, int topic) {
            Fellow f = men.get(m);
            int plain = f.nerve;
            if (lawOf(0) >= 0) {
                int given = laws.get(lawOf(0)).node.value(Map.of('n', f.nerve, 'w', f.weight, 'f', f.felled, 's', standing()));
                plain = given < 0 ? 0 : given > 99 ? 99 : given;
            }
            int others = 0;
            for (int i = 0; i < men.size(); i++) {
                others += i != m && stands(i) ? 1 : 0;
            }
            return f.bears(f.kind, plain, topic, others);
        }

        int say(int m, int topic, int force, int turn) {
            return bears(m, topic) < force ? fall(m, topic, turn) : 0;
        }

        int fall(int m, int topic, int turn) {
            Fellow f = men.get(m);
            f.down = true;
            if (f.felled < 9999) {
                f.felled++;
            }
            fell++;
            int n = 1;
            for (int side = 0; side < 2; side++) {
                int b = BEHIND[m][side];
                boolean to = side == 0 ? turn != 1 : turn != -1;
                if (to && stands(b) && bears(b, topic) < f.pushes(f.kind)) {
                    n += fall(b, topic, turn);
                }
            }
            return n;
        }

        int draw() {
            z = z * 1103515245 + 12345;
            return z >>> 8;
        }

        void setUp() {
            for (Fellow f : men) {
                f.down = false;
            }
            goes = 0;
            set++;
        }

        void go() {
            if (goes == 3 || standing() == 0) {
                setUp();
            }
            int topic = draw() % 8;
            int force = draw() % 100;
            int turn = draw() % 3 - 1;
            int who = draw();
            if (!men.isEmpty()) {
                who %= men.size();
                while (!stands(who)) {
                    who = (who + 1) % men.size();
                }
                say(who, topic, force, turn);
            }
            for (Fellow f : men) {
                f.nerve = f.down ? Math.max(0, f.nerve - 1) : Math.min(99, f.nerve + 1);
            }
            goes++;
            go++;
        }

        World behind(int n) {
            World w = twin();
            for (int i = 0; i < n; i++) {
                w.go();
            }
            return w;
        }

        int nerves() {
            return men.stream().mapToInt(f -> f.nerve).sum();
        }

        int set() {
            int s = 0;
            for (int i = 0; i < men.size(); i++) {
                s |= stands(i) ? 1 << i : 0;
            }
            return s;
        }

        /** Worlds behind each saying of this force, in the order of man, topic, turn; each with who was told what. */
        List<Object[]> sayings(int f) {
            List<Object[]> all = new ArrayList<>();
            for (int m = 0; m < men.size(); m++) {
                for (int t = 0; t < 8 && stands(m); t++) {
                    for (int r = -1; r <= 1; r++) {
                        World w = twin();
                        int n = w.say(m, t, f, r);
                        all.add(new Object[] {n, m, t, r + 1, w});
                    }
                }
            }
            return all;
        }
    }

    private static final class Fault extends RuntimeException {
        private static final long serialVersionUID = 1;
        final int at;

        Fault(int at) {
            super(null, null, false, false);
            this.at = at;
        }
    }

    /** By recursive descent, over words with their places. */
    private static final class Parser {
        final List<String> words = new ArrayList<>();
        final List<Integer> places = new ArrayList<>();
        int at = 0;
        String names = "";
        int pieces = 0;

        Parser(String tape) {
            java.util.regex.Matcher m = java.util.regex.Pattern.compile("[a-z]+|[0-9]+|[^ ]", java.util.regex.Pattern.DOTALL).matcher(tape);
            while (m.find()) {
                words.add(m.group());
                places.add(m.start());
            }
            words.add("");
            places.add(tape.length());
        }

        String word() {
            return words.get(at);
        }

        Fault fault() {
            return new Fault(places.get(at));
        }

        boolean glued() {
            return at > 0 && word().matches("[a-z]+|[0-9]+") && words.get(at - 1).matches("[a-z]+|[0-9]+")
                && places.get(at - 1) + words.get(at - 1).length() == places.get(at);
        }

        Law law() {
            Law law = new Law();
            law.key = List.of("bears", "fee", "fine").indexOf(word());
            if (law.key < 0) {
                throw fault();
            }
            names = List.of("nwfs", "fs", "nw").get(law.key);
            at++;
            law.node = or(0, 0);
            if (!word().isEmpty()) {
                throw fault();
            }
            law.pieces = pieces;
            return law;
        }

        Node or(int parens, int bangs) {
            Node a = and(parens, bangs);
            while (word().equals("|")) {
                at++;
                Node l = a;
                Node r = and(parens, bangs);
                a = n -> l.value(n) != 0 | r.value(n) != 0 ? 1 : 0;
            }
            return a;
        }

        Node and(int parens, int bangs) {
            Node a = test(parens, bangs);
            while (word().equals("&")) {
                at++;
                Node l = a;
                Node r = test(parens, bangs);
                a = n -> l.value(n) != 0 & r.value(n) != 0 ? 1 : 0;
            }
            return a;
        }

        Node test(int parens, int bangs) {
            Node l = sum(parens, bangs);
            String sign = word();
            if (!sign.matches("[<=>]")) {
                return l;
            }
            at++;
            Node r = sum(parens, bangs);
            int wanted = "<=>".indexOf(sign) - 1;
            return n -> Integer.compare(l.value(n), r.value(n)) == wanted ? 1 : 0;
        }

        Node sum(int parens, int bangs) {
            Node a = term(parens, bangs);
            while (word().matches("[-+]")) {
                int by = word().equals("+") ? 1 : -1;
                at++;
                Node l = a;
                Node r = term(parens, bangs);
                a = n -> l.value(n) + by * r.value(n);
            }
            return a;
        }

        Node term(int parens, int bangs) {
            Node a = piece(parens, bangs);
            while (word().matches("[*/]")) {
                boolean times = word().equals("*");
                at++;
                Node l = a;
                Node r = piece(parens, bangs);
                a = n -> times ? l.value(n) * r.value(n) : r.value(n) == 0 ? 0 : l.value(n) / r.value(n);
            }
            return a;
        }

        Node piece(int parens, int bangs) {
            String w = word();
            if (glued()) {
                throw fault();
            }
            if (w.matches("[0-9]{1,4}")) {
                at++;
                pieces++;
                int v = Integer.parseInt(w);
                return n -> v;
            }
            if (w.length() == 1 && names.contains(w)) {
                at++;
                pieces++;
                return n -> n.get(w.charAt(0));
            }
            if (w.equals("!") && bangs < 8) {
                at++;
                Node a = piece(parens, bangs + 1);
                return n -> a.value(n) == 0 ? 1 : 0;
            }
            if (w.equals("(") && parens < 8) {
                at++;
                Node a = or(parens + 1, bangs);
                if (!word().equals(")")) {
                    throw fault();
                }
                at++;
                return a;
            }
            throw fault();
        }
    }

    private World w = new World();
    private World image = null;
    private String tape = "";
    private final Map<Integer, Integer[]> sheets = new TreeMap<>();
    private final Map<Integer, Integer> sorts = new TreeMap<>();
    private final Map<Integer, Object> slots = new TreeMap<>();
    private final List<Integer> waiting = new ArrayList<>();

    public PlainModel() {
    }

    private boolean in(int v, int a, int b) {
        return v >= a && v <= b;
    }

    private boolean isMan(int m) {
        return in(m, 0, w.men.size() - 1);
    }

    public int man(int kind, int nerve, int weight, int sore) {
        if (!in(kind, 0, 5) || !in(nerve, 0, 99) || !in(weight, 0, 99) || !in(sore, 0, 7)) {
            return Due.BAD;
        }
        if (w.men.size() == 9) {
            return Due.FULL;
        }
        w.men.add(new Fellow(kind, nerve, weight, sore));
        return w.men.size() - 1;
    }

    public int told(int man, int what) {
        if (!isMan(man) || !in(what, 0, 7)) {
            return Due.BAD;
        }
        Fellow f = w.men.get(man);
        return new int[] {f.kind, f.nerve, f.weight, f.sore, f.felled, f.down ? 1 : 0, f.pushes(f.kind), f.worth(f.kind)}[what];
    }

    public int bears(int man, int topic) {
        return isMan(man) && in(topic, 0, 7) ? w.bears(man, topic) : Due.BAD;
    }

    public int as(int man, int kind) {
        if (!isMan(man) || !in(kind, 0, 5)) {
            return Due.BAD;
        }
        return w.men.get(man).is(kind) ? w.men.get(man).nerve : Due.KIND;
    }

    public int turns(int man, int kind) {
        if (!isMan(man) || !in(kind, 0, 5)) {
            return Due.BAD;
        }
        int was = w.men.get(man).kind;
        w.men.get(man).kind = kind;
        return was;
    }

    public int set(int man, int what, int v) {
        if (!isMan(man) || !in(what, 1, 5) || !in(v, 0, new int[] {0, 99, 99, 7, 9999, 1}[what])) {
            return Due.BAD;
        }
        int was = told(man, what);
        Fellow f = w.men.get(man);
        switch (what) {
            case 1 -> f.nerve = v;
            case 2 -> f.weight = v;
            case 3 -> f.sore = v;
            case 4 -> f.felled = v;
            default -> f.down = v != 0;
        }
        return was;
    }

    public int says(int man, int topic, int force, int turn) {
        if (!isMan(man) || !in(topic, 0, 7) || !in(force, 0, 99) || !in(turn, -1, 1)) {
            return Due.BAD;
        }
        return w.stands(man) ? w.say(man, topic, force, turn) : Due.NO;
    }

    public int sets() {
        int down = w.men.size() - w.standing();
        w.setUp();
        return down;
    }

    public int deal(int n) {
        if (!in(n, 1, 9)) {
            return Due.BAD;
        }
        int came = 0;
        while (came < n && w.men.size() < 9) {
            int kind = w.draw() % 6;
            int nerve = w.draw() % 100;
            int weight = w.draw() % 100;
            int sore = w.draw() % 8;
            w.men.add(new Fellow(kind, nerve, weight, sore));
            came++;
        }
        return came;
    }

    public int seed(int v) {
        int was = w.z;
        w.z = v;
        return was;
    }

    public int goes(int n) {
        if (!in(n, 1, 100)) {
            return Due.BAD;
        }
        int before = w.fell;
        for (int i = 0; i < n && w.go < 9999; i++) {
            w.go();
        }
        return w.fell - before;
    }

    public int alley(int what) {
        if (!in(what, 0, 5)) {
            return Due.BAD;
        }
        if (what == 5) {
            int most = w.men.stream().mapToInt(f -> f.felled).max().orElse(-1);
            for (int i = 0; i < w.men.size(); i++) {
                if (w.men.get(i).felled == most) {
                    return i;
                }
            }
            return Due.NONE;
        }
        return new int[] {w.fell, w.set, w.goes, w.set(), w.nerves()}[what];
    }

    public int best(int f, int what) {
        if (!in(f, 0, 99) || !in(what, 0, 3)) {
            return Due.BAD;
        }
        Object[] best = null;
        for (Object[] said : w.sayings(f)) {
            if (best == null || (int) said[0] > (int) best[0]) {
                best = said;
            }
        }
        return best == null ? Due.NONE : (int) best[what];
    }

    public int pair(int f) {
        if (!in(f, 0, 99)) {
            return Due.BAD;
        }
        int most = 0;
        Map<Integer, Integer> known = new HashMap<>();
        for (Object[] first : w.sayings(f)) {
            World then = (World) first[4];
            if (!known.containsKey(then.set())) {
                known.put(then.set(), then.sayings(f).stream().mapToInt(s -> (int) s[0]).max().orElse(0));
            }
            most = Math.max(most, (int) first[0] + known.get(then.set()));
        }
        return most;
    }

    public int clear(int f) {
        if (!in(f, 0, 99)) {
            return Due.BAD;
        }
        Map<Integer, Integer> known = new HashMap<>();
        int least = fewest(w, f, known);
        return least > 9 ? Due.NONE : least;
    }

    private int fewest(World from, int f, Map<Integer, Integer> known) {
        if (from.standing() == 0) {
            return 0;
        }
        Integer before = known.get(from.set());
        if (before != null) {
            return before;
        }
        int least = 100;
        for (Object[] said : from.sayings(f)) {
            if ((int) said[0] > 0) {
                least = Math.min(least, 1 + fewest((World) said[4], f, known));
            }
        }
        known.put(from.set(), least);
        return least;
    }

    public int force(int man, int topic) {
        if (!isMan(man) || !in(topic, 0, 7)) {
            return Due.BAD;
        }
        if (!w.stands(man)) {
            return Due.NO;
        }
        for (int f = 0; f <= 99; f++) {
            if (w.twin().say(man, topic, f, 0) > 0) {
                return f;
            }
        }
        return Due.NONE;
    }

    public int behind(int n, int what) {
        if (!in(n, 0, 100) || !in(what, 0, 2 + w.men.size())) {
            return Due.BAD;
        }
        World then = w.behind(n);
        return what == 0 ? then.fell : what == 1 ? then.set : what == 2 ? then.standing() : then.men.get(what - 3).felled;
    }

    public int falls(int man) {
        if (!isMan(man)) {
            return Due.BAD;
        }
        World then = w.twin();
        for (int n = 1; n <= 200; n++) {
            then.go();
            if (then.men.get(man).felled > w.men.get(man).felled) {
                return n;
            }
        }
        return Due.NONE;
    }

    public int becomes(int man, int n, int what) {
        if (!isMan(man) || !in(n, 1, 60) || !in(what, 0, 1)) {
            return Due.BAD;
        }
        TreeMap<Integer, Integer> kindOf = new TreeMap<>();
        for (int kind = 5; kind >= 0; kind--) {
            World then = w.twin();
            then.men.get(man).kind = kind;
            kindOf.put(then.behind(n).men.get(man).felled, kind);
        }
        return what == 0 ? kindOf.firstEntry().getValue() : kindOf.firstKey();
    }

    public int like(int sheet, int what) {
        if (!in(sheet, 0, 3) || !in(what, 0, 1)) {
            return Due.BAD;
        }
        Integer[] row = sheets.get(sheet);
        if (row == null) {
            return Due.NOTHING;
        }
        TreeMap<Integer, Integer> manOf = new TreeMap<>();
        for (int man = w.men.size() - 1; man >= 0; man--) {
            int sum = 0;
            for (int k = 0; k < row.length; k++) {
                sum += row[k] == null ? 0 : Math.abs(w.behind(k).men.get(man).nerve - row[k]);
            }
            manOf.put(sum, man);
        }
        if (manOf.isEmpty()) {
            return Due.NONE;
        }
        return what == 0 ? manOf.firstEntry().getValue() : manOf.firstKey();
    }

    public int fee() {
        int law = w.lawOf(1);
        return law < 0 ? w.fell : w.laws.get(law).node.value(Map.of('f', w.fell, 's', w.set));
    }

    public int fine(int man) {
        if (!isMan(man)) {
            return Due.BAD;
        }
        int law = w.lawOf(2);
        Fellow f = w.men.get(man);
        return law < 0 ? f.nerve : w.laws.get(law).node.value(Map.of('n', f.nerve, 'w', f.weight));
    }

    public int feed(int a, int b, int c) {
        if (tape.length() + 12 > 96) {
            return Due.FULL;
        }
        for (int v : new int[] {a, b, c}) {
            for (int i = 3; i >= 0; i--) {
                tape += (char) (v >>> 8 * i & 255);
            }
        }
        return tape.length();
    }

    public int trim(int n) {
        if (!in(n, 0, tape.length())) {
            return Due.BAD;
        }
        tape = tape.substring(0, n);
        return n;
    }

    public int text() {
        String was = tape;
        tape = "";
        try {
            Law law = new Parser(was).law();
            if (w.laws.size() == 14) {
                return Due.FULL;
            }
            w.laws.add(law);
            return w.laws.size() - 1;
        } catch (Fault fault) {
            return -100 - fault.at;
        }
    }

    public int textTold(int text, int what) {
        if (!in(text, 0, w.laws.size() - 1) || !in(what, 0, 1)) {
            return Due.BAD;
        }
        return what == 0 ? w.laws.get(text).key : w.laws.get(text).pieces;
    }

    public int why(int key) {
        if (!in(key, 0, 2)) {
            return Due.BAD;
        }
        return w.lawOf(key) < 0 ? Due.NONE : w.lawOf(key);
    }

    public int sheet(int sheet, int sort, int n) {
        if (!in(sheet, 0, 3) || !in(sort, -1, 1)) {
            return Due.BAD;
        }
        if (sort == -1) {
            sheets.remove(sheet);
            return 0;
        }
        if (n > 24) {
            return Due.BAD;
        }
        if (n < 0) {
            return Due.SIZE;
        }
        Integer[] row = new Integer[n];
        java.util.Arrays.fill(row, 0);
        sheets.put(sheet, row);
        sorts.put(sheet, sort);
        return n;
    }

    public int mark(int sheet, int place, int v) {
        if (!in(sheet, 0, 3)) {
            return Due.BAD;
        }
        Integer[] row = sheets.get(sheet);
        if (row == null) {
            return Due.NOTHING;
        }
        if (!in(place, 0, row.length - 1)) {
            return Due.INDEX;
        }
        if (sorts.get(sheet) == 0) {
            if (v == Due.NONE) {
                return Due.KIND;
            }
            row[place] = (int) (short) v;
            return 1;
        }
        if (v == Due.NONE) {
            row[place] = null;
            return 1;
        }
        if (!in(v, -99999, 99999)) {
            return Due.BAD;
        }
        row[place] = v;
        return 1;
    }

    public int pour(int sheet) {
        if (!in(sheet, 0, 3)) {
            return Due.BAD;
        }
        Integer[] row = sheets.get(sheet);
        if (row == null) {
            return Due.NOTHING;
        }
        int otherwise = 0;
        for (int i = 0; i < w.men.size(); i++) {
            Fellow f = w.men.get(i);
            int was = f.nerve;
            if (i < row.length && row[i] != null) {
                f.nerve = row[i] < 0 ? 0 : row[i] > 99 ? 99 : row[i];
            }
            otherwise += f.nerve == was ? 0 : 1;
        }
        return otherwise;
    }

    public int reads(int sheet) {
        if (!in(sheet, 0, 3)) {
            return Due.BAD;
        }
        Integer[] row = sheets.get(sheet);
        if (row == null) {
            return Due.NOTHING;
        }
        for (int i = 0; i < row.length; i++) {
            if (row[i] != null && (i >= w.men.size() || w.men.get(i).weight != row[i])) {
                return i;
            }
        }
        return Due.NONE;
    }

    public int copy(int from, int place, int to, int at, int many) {
        if (!in(from, 0, 3) || !in(to, 0, 3)) {
            return Due.BAD;
        }
        if (!sheets.containsKey(from) || !sheets.containsKey(to)) {
            return Due.NOTHING;
        }
        if (!sorts.get(from).equals(sorts.get(to))) {
            return Due.KIND;
        }
        Integer[] source = sheets.get(from).clone();
        Integer[] target = sheets.get(to);
        if (place < 0 || at < 0 || many < 0 || (long) place + many > source.length || (long) at + many > target.length) {
            return Due.INDEX;
        }
        for (int i = 0; i < many; i++) {
            target[at + i] = source[place + i];
        }
        return many;
    }

    private static int sortOf(Object held) {
        return held == null ? 0 : held instanceof Fellow ? 1 : held instanceof Integer[] ? 2 : 3;
    }

    public int lay(int slot, int thing, int k) {
        if (!in(slot, 0, 4) || !in(thing, 0, 3) || thing == 1 && !isMan(k) || thing == 2 && !in(k, 0, 3)) {
            return Due.BAD;
        }
        if (thing == 2 && !sheets.containsKey(k)) {
            return Due.NOTHING;
        }
        Object was = slots.remove(slot);
        if (thing > 0) {
            slots.put(slot, thing == 1 ? w.men.get(k).twin() : thing == 2 ? (Object) sheets.get(k).clone() : (Object) k);
        }
        return sortOf(was);
    }

    public int ask(int slot, int kind) {
        if (!in(slot, 0, 4) || !in(kind, 0, 5)) {
            return Due.BAD;
        }
        Object held = slots.get(slot);
        if (held == null) {
            return Due.NOTHING;
        }
        return held instanceof Fellow f && f.is(kind) ? f.worth(f.kind) : Due.KIND;
    }

    public int item(int slot, int place) {
        if (!in(slot, 0, 4)) {
            return Due.BAD;
        }
        Object held = slots.get(slot);
        if (held == null) {
            return Due.NOTHING;
        }
        if (!(held instanceof Integer[])) {
            return Due.KIND;
        }
        Integer[] row = (Integer[]) held;
        if (!in(place, 0, row.length - 1)) {
            return Due.INDEX;
        }
        return row[place] == null ? Due.KIND : row[place];
    }

    public int rest(int slot, int n) {
        if (!in(slot, 0, 4)) {
            return Due.BAD;
        }
        Object held = slots.get(slot);
        if (held == null) {
            return Due.NOTHING;
        }
        if (sortOf(held) != 3) {
            return Due.KIND;
        }
        return n == 0 ? Due.NO : (int) ((long) (Integer) held % n);
    }

    public int tell(int v) {
        if (waiting.size() == 60) {
            return Due.FULL;
        }
        waiting.add(v);
        return waiting.size();
    }

    public int check(int n) {
        List<Integer> told = new ArrayList<>(waiting);
        waiting.clear();
        if (!in(n, 1, 30)) {
            return Due.BAD;
        }
        if (image == null) {
            return Due.NO;
        }
        List<Integer> due = new ArrayList<>();
        World then = image.twin();
        for (int i = 0; i < n && then.go < 9999; i++) {
            then.go();
            due.add(then.fell);
            due.add(then.nerves());
        }
        if (told.equals(due)) {
            return 0;
        }
        int right = 0;
        while (right < told.size() && right < due.size() && told.get(right).equals(due.get(right))) {
            right++;
        }
        return 1 + right;
    }

    public int keep() {
        image = w.twin();
        return w.men.size();
    }

    public int back() {
        if (image == null) {
            return Due.NO;
        }
        w = image.twin();
        return w.men.size();
    }

    public int count(int what) {
        if (!in(what, 0, 6)) {
            return Due.BAD;
        }
        return new int[] {w.men.size(), w.go, w.standing(), w.laws.size(), waiting.size(), tape.length(), w.z}[what];
    }
}
