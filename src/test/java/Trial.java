import java.lang.reflect.InvocationTargetException;
import java.lang.reflect.Method;
import java.nio.charset.StandardCharsets;
import java.util.ArrayList;
import java.util.Arrays;
import java.util.HashMap;
import java.util.List;
import java.util.Map;

/**
 * One object and the calls made on it. A call that must be refused is held against the same run without it: two objects
 * made anew go through the run, and whatever can be asked of them must be answered alike.
 */
final class Trial {
    static final int MIN = Integer.MIN_VALUE, MAX = Integer.MAX_VALUE;
    /** What later calls of an object answer is free, so no test may ask for more. */
    private static final int MOST_CALLS = 512;
    /** What a call that threw answers here; no call of the document does. */
    private static final int THREW = -777777777;
    private static final Map<String, Method> METHODS = methodsByName();

    private final int promise;
    private final SkittleMen x = new SkittleMen();
    private int made = 0;
    /** The calls that count: those that were refused, or only asked, are left out once they have been looked at. */
    private List<Object[]> run = new ArrayList<>();

    Trial(int promise) {
        this.promise = promise;
    }

    private static Map<String, Method> methodsByName() {
        Map<String, Method> all = new HashMap<>();
        for (Method m : SkittleMen.class.getDeclaredMethods()) {
            if (java.lang.reflect.Modifier.isPublic(m.getModifiers())) {
                all.put(m.getName(), m);
            }
        }
        return all;
    }

    /** A house with something of everything, so that a change anywhere would be seen. Man 1 is down; sheet 3 is missing. */
    static Trial house(int promise) {
        Trial t = new Trial(promise);
        int[][] men = {{0, 30, 60, 2}, {1, 25, 80, 3}, {2, 40, 50, 1}, {3, 20, 90, 0}, {4, 35, 70, 4}, {5, 7, 20, 2}};
        for (int[] man : men) {
            t.call("man", man);
        }
        t.call("seed", 31);
        t.text("fee f+s*100");
        t.text("fine n*w");
        t.call("goes", 4);
        t.call("keep");
        tellGoes(t, 2);
        int[] shorts = {30, 80, -3, 100, 90, 7};
        int[] floats = {60, SkittleMen.NONE, 50, -99999, 99999};
        t.row(0, 0, shorts);
        t.row(1, 1, floats);
        t.row(2, 0);
        t.call("lay", 0, 1, 3);
        t.call("lay", 1, 2, 0);
        t.call("lay", 2, 3, -17);
        t.call("lay", 3, 2, 1);
        t.call("sets");
        t.call("set", 1, 5, 1);
        t.put("bears n+3*w ");
        return t;
    }

    /** Goes on n goes from the image, which is how it is now, and lets what is told of them wait. */
    static void tellGoes(Trial t, int n) {
        for (int i = 0; i < n; i++) {
            t.call("goes", 1);
            t.call("tell", t.call("alley", 0));
            t.call("tell", t.call("alley", 4));
        }
    }

    Trial row(int sheet, int sort, int... places) {
        call("sheet", sheet, sort, places.length);
        for (int i = 0; i < places.length; i++) {
            call("mark", sheet, i, places[i]);
        }
        return this;
    }

    /** Nine men of a kind, all alike. */
    Trial nine(int kind, int nerve, int weight, int sore) {
        for (int i = 0; i < 9; i++) {
            call("man", kind, nerve, weight, sore);
        }
        return this;
    }

    Trial man(int kind, int nerve, int weight, int sore) {
        call("man", kind, nerve, weight, sore);
        return this;
    }

    int call(String name, int... numbers) {
        run.add(new Object[] {name, numbers});
        made++;
        if (made > MOST_CALLS) {
            Due.wrong(promise, "the test itself makes more than " + MOST_CALLS + " calls");
        }
        return answer(x, name, numbers);
    }

    void due(int want, String name, int... numbers) {
        int got = call(name, numbers);
        if (got != want) {
            Due.wrong(promise, told() + " answered " + got + ", due is " + want);
        }
    }

    /** The tape holds just these bytes from now on. */
    void put(String bytes) {
        byte[] all = bytes.getBytes(StandardCharsets.ISO_8859_1);
        call("trim", 0);
        for (int from = 0; from < all.length; from += 12) {
            int[] fours = new int[3];
            for (int i = 0; i < 12; i++) {
                fours[i / 4] = fours[i / 4] << 8 | (from + i < all.length ? all[from + i] & 255 : 32);
            }
            call("feed", fours);
        }
        if (all.length % 12 != 0) {
            call("trim", all.length);
        }
    }

    int text(String bytes) {
        put(bytes);
        return call("text");
    }

    /** It answers so and changes nothing. */
    void refused(int want, String name, int... numbers) {
        due(want, name, numbers);
        seemsAs(withoutLast());
    }

    /** It answers so and changes nothing but that the tape is used up. */
    void refusedWithTape(int want, String name, int... numbers) {
        due(want, name, numbers);
        List<Object[]> without = withoutLast();
        without.add(new Object[] {"trim", new int[] {0}});
        seemsAs(without);
    }

    /** It answers so and changes nothing but that no numbers wait. */
    void refusedWithNumbers(int want, String name, int... numbers) {
        due(want, name, numbers);
        List<Object[]> without = withoutLast();
        without.removeIf(call -> call[0].equals("tell"));
        seemsAs(without);
    }

    /** It is not refused, answers so, and changes nothing. */
    void onlyAsks(int want, String name, int... numbers) {
        refused(want, name, numbers);
    }

    /** Each number but those within the bounds is refused with BAD at one place of a call that is else fine. */
    void badBeyond(int place, int least, int most, String name, int... numbers) {
        int[] beyond = {least - 1, most + 1, MIN, MAX};
        for (int v : beyond) {
            int[] given = numbers.clone();
            given[place] = v;
            refused(SkittleMen.BAD, name, given);
        }
    }

    private List<Object[]> withoutLast() {
        return new ArrayList<>(run.subList(0, run.size() - 1));
    }

    private static SkittleMen gone(List<Object[]> calls) {
        SkittleMen made = new SkittleMen();
        for (Object[] call : calls) {
            answer(made, (String) call[0], (int[]) call[1]);
        }
        return made;
    }

    /** The run is as this other one, and goes on from it. */
    private void seemsAs(List<Object[]> other) {
        for (int part = 0; part < Probe.PARTS; part++) {
            compare(new Probe(gone(run), part), new Probe(gone(other), part));
        }
        run = other;
    }

    private void compare(Probe mine, Probe due) {
        if (run.size() + due.answers.size() > MOST_CALLS) {
            Due.wrong(promise, "the test itself makes more than " + MOST_CALLS + " calls to look behind " + told());
        }
        for (int i = 0; i < due.answers.size(); i++) {
            if (!due.answers.get(i).equals(mine.answers.get(i))) {
                Due.wrong(promise, told() + " changed something: " + mine.answers.get(i) + ", due is " + due.answers.get(i));
                return;
            }
        }
    }

    private String told() {
        Object[] last = run.get(run.size() - 1);
        String numbers = Arrays.toString((int[]) last[1]);
        return last[0] + "(" + numbers.substring(1, numbers.length() - 1) + ") behind " + (run.size() - 1) + " calls";
    }

    static int answer(SkittleMen of, String name, int... numbers) {
        Object[] given = Arrays.stream(numbers).boxed().toArray();
        try {
            return (int) METHODS.get(name).invoke(of, given);
        } catch (InvocationTargetException e) {
            Due.wrong(0, name + Arrays.toString(numbers) + " threw " + e.getCause());
            return THREW;
        } catch (ReflectiveOperationException e) {
            throw new IllegalStateException(name, e);
        }
    }

    /** All that can be asked, in parts, since asking of sheets, the tape and the image changes other things. */
    private static final class Probe {
        static final int PARTS = 5;

        final List<String> answers = new ArrayList<>();
        private final SkittleMen of;

        Probe(SkittleMen of, int part) {
            this.of = of;
            switch (part) {
                case 0: alley(); break;
                case 1: slots(); break;
                case 2: sheets(); break;
                case 3: tapeAndNumbers(); break;
                default: ask("back"); alley(); break;
            }
        }

        private int ask(String name, int... numbers) {
            int got = answer(of, name, numbers);
            answers.add(name + Arrays.toString(numbers) + " is " + got);
            return got;
        }

        private void alley() {
            for (int what = 0; what < 7; what++) {
                ask("count", what);
                ask("alley", what);
            }
            for (int man = 0; man < 9; man++) {
                for (int what = 0; what < 8; what++) {
                    ask("told", man, what);
                }
                ask("bears", man, man % 8);
                ask("fine", man);
            }
            for (int text = 0; text < 14; text++) {
                ask("textTold", text, 0);
                ask("textTold", text, 1);
            }
            for (int key = 0; key < 3; key++) {
                ask("why", key);
            }
            ask("fee");
        }

        private void slots() {
            for (int slot = 0; slot < 5; slot++) {
                for (int kind = 0; kind < 6; kind++) {
                    ask("ask", slot, kind);
                }
                for (int place = 0; place < 25; place++) {
                    ask("item", slot, place);
                }
                ask("rest", slot, 10007);
            }
        }

        private void sheets() {
            for (int sheet = 0; sheet < 4; sheet++) {
                ask("lay", 0, 0, 0);
                ask("lay", 0, 2, sheet);
                for (int place = 0; place < 25; place++) {
                    ask("item", 0, place);
                }
                ask("mark", sheet, 0, SkittleMen.NONE);
            }
        }

        private void tapeAndNumbers() {
            int waiting = ask("count", 4);
            ask("check", Math.max(1, Math.min(waiting / 2, 30)));
            ask("text");
            for (int key = 0; key < 3; key++) {
                ask("textTold", answer(of, "why", key), 1);
            }
            ask("fee");
            for (int man = 0; man < 9; man++) {
                ask("bears", man, man % 8);
                ask("fine", man);
            }
        }
    }
}
