import java.lang.reflect.Method;
import java.nio.charset.StandardCharsets;
import java.util.Arrays;
import java.util.Comparator;
import java.util.Random;

/** All promises: runs of calls by lot (the same each time), the class beside the plain model. */
public final class RandomRunsTest {
    private static final int RUNS = 400, CALLS = 300;
    /** By name: from and up to of each number that is mostly given. */
    private static final String RANGES = "man 0 5 0 99 0 99 0 7;told 0 8 0 7;bears 0 8 0 7;as 0 8 0 5;turns 0 8 0 5;set 0 8 1 5 0 99;"
        + "says 0 8 0 7 0 99 -1 1;sets;deal 1 4;seed -9 99;goes 1 40;alley 0 5;best 0 99 0 3;pair 0 99;clear 0 99;force 0 8 0 7;behind 0 60 0 11;"
        + "falls 0 8;becomes 0 8 1 30 0 1;like 0 3 0 1;fee;fine 0 8;feed -9 9 -9 9 -9 9;trim 0 12;text;textTold 0 13 0 1;why 0 2;"
        + "sheet 0 3 -1 1 0 24;mark 0 3 0 23 -200 200;pour 0 3;reads 0 3;copy 0 3 0 10 0 3 0 10 0 12;lay 0 4 0 3 0 8;ask 0 4 0 5;item 0 4 0 24;"
        + "rest 0 4 -9 9;tell 0 600;check 1 30;keep;back;count 0 6";
    private static final int[] ODD = {-1, 0, 1, 7, 8, 9, 24, 25, 99, 100, 101, 9999, 10000, 99999, 100000, 32768, -32769, Due.NONE, Due.BAD,
        Integer.MIN_VALUE, Integer.MAX_VALUE, -2};

    private final Random lot;
    private final SkittleMen x = new SkittleMen();
    private final PlainModel y = new PlainModel();
    private final StringBuilder run = new StringBuilder();
    private final int oddness;
    private int calls = 0;

    private RandomRunsTest(int seed) {
        lot = new Random(seed);
        oddness = seed % 4 == 0 ? 6 : 60;
    }

    public static void main(String[] args) throws ReflectiveOperationException {
        Method[] methods = PlainModel.class.getDeclaredMethods();
        methods = Arrays.stream(methods).filter(m -> java.lang.reflect.Modifier.isPublic(m.getModifiers()))
            .sorted(Comparator.comparing(Method::getName)).toArray(Method[]::new);
        int runs = args.length > 0 ? Integer.parseInt(args[0]) : RUNS;
        int from = args.length > 1 ? Integer.parseInt(args[1]) : 0;
        int wrong = 0;
        for (int i = from; i < from + runs && wrong < 5; i++) {
            RandomRunsTest test = new RandomRunsTest(i);
            if (!test.agrees(methods)) {
                wrong++;
                System.out.println("run " + i + ":" + test.run);
            }
        }
        System.out.println(wrong == 0 ? "all answers are as due" : wrong + " runs differ");
        if (wrong != 0) {
            System.exit(1);
        }
    }

    private boolean agrees(Method[] methods) throws ReflectiveOperationException {
        while (calls < CALLS) {
            int what = lot.nextInt(20);
            boolean same;
            if (what == 0) {
                same = tellsText();
            } else if (what == 1) {
                same = tellsGoes();
            } else {
                Method m = methods[lot.nextInt(methods.length)];
                boolean dear = "clear pair".contains(m.getName());
                same = dear && lot.nextInt(3) > 0 || call(m.getName(), numbers(m.getName()));
            }
            if (!same) {
                return false;
            }
        }
        return true;
    }

    private int[] numbers(String name) {
        for (String row : RANGES.split(";")) {
            String[] words = row.split(" ");
            if (words[0].equals(name)) {
                int[] numbers = new int[words.length / 2];
                for (int i = 0; i < numbers.length; i++) {
                    int least = Integer.parseInt(words[1 + 2 * i]);
                    int most = Integer.parseInt(words[2 + 2 * i]);
                    numbers[i] = lot.nextInt(oddness) == 0 ? ODD[lot.nextInt(ODD.length)] : least + lot.nextInt(most - least + 1);
                }
                return numbers;
            }
        }
        throw new IllegalStateException(name);
    }

    private boolean call(String name, int... numbers) throws ReflectiveOperationException {
        Class<?>[] types = new Class<?>[numbers.length];
        Arrays.fill(types, int.class);
        Object[] given = Arrays.stream(numbers).boxed().toArray();
        calls++;
        Object got = SkittleMen.class.getMethod(name, types).invoke(x, given);
        Object want = PlainModel.class.getMethod(name, types).invoke(y, given);
        run.append("\n  ").append(name).append(Arrays.toString(numbers)).append(" = ").append(got);
        if (!got.equals(want)) {
            run.append(", the model says ").append(want);
            return false;
        }
        return true;
    }

    private boolean tellsText() throws ReflectiveOperationException {
        StringBuilder text = new StringBuilder(new String[] {"bears", "bears ", "fee ", "fine ", "  fee", "fine"}[lot.nextInt(6)]);
        grow(text, 3, text.charAt(1) == 'i' ? "nw" : text.indexOf("f") >= 0 ? "fs" : "nwfs");
        if (lot.nextInt(3) == 0) {
            String signs = "nwfs()!&|<=>+-*/ 0123456789axA?";
            for (int i = lot.nextInt(2); i >= 0 && text.length() > 0; i--) {
                int at = lot.nextInt(text.length());
                switch (lot.nextInt(3)) {
                    case 0: text.deleteCharAt(at); break;
                    case 1: text.insert(at, signs.charAt(lot.nextInt(signs.length()))); break;
                    default: text.setCharAt(at, signs.charAt(lot.nextInt(signs.length()))); break;
                }
            }
        }
        byte[] bytes = text.toString().getBytes(StandardCharsets.ISO_8859_1);
        boolean same = call("trim", 0);
        for (int from = 0; from < bytes.length && from < 96 && same; from += 12) {
            int[] fours = new int[3];
            for (int i = 0; i < 12; i++) {
                fours[i / 4] = fours[i / 4] << 8 | (from + i < bytes.length ? bytes[from + i] & 255 : 32);
            }
            same = call("feed", fours);
        }
        if (same && lot.nextInt(8) > 0) {
            same = call("trim", Math.min(bytes.length, 96));
        }
        run.append(" '").append(text).append("'");
        return same && call("text");
    }

    private void grow(StringBuilder text, int depth, String names) {
        int pieces = 1 + lot.nextInt(3);
        for (int i = 0; i < pieces; i++) {
            if (i > 0) {
                text.append("|&<=>+-*/".charAt(lot.nextInt(9)));
            }
            if (lot.nextInt(3) == 0) {
                text.append(' ');
            }
            while (lot.nextInt(6) == 0) {
                text.append('!');
            }
            if (depth > 0 && lot.nextInt(3) == 0) {
                text.append('(');
                grow(text, depth - 1, names);
                text.append(')');
            } else if (lot.nextInt(2) == 0) {
                text.append(lot.nextInt(lot.nextBoolean() ? 12 : 10000));
            } else {
                text.append(names.charAt(lot.nextInt(names.length())));
            }
        }
    }

    /** Numbers that are right, as far as they go, and a check of them. */
    private boolean tellsGoes() throws ReflectiveOperationException {
        boolean same = call("keep") && call("check", 1);
        int n = 1 + lot.nextInt(5);
        int right = lot.nextInt(3) > 0 ? 2 * n : lot.nextInt(2 * n + 2);
        for (int i = 0; i < right && same; i++) {
            if (i % 2 == 0) {
                same = call("goes", 1);
            }
            same = same && call("tell", y.alley(i % 2 == 0 ? 0 : 4) + (lot.nextInt(20) == 0 ? 1 : 0));
        }
        if (same && lot.nextBoolean()) {
            same = call("back");
        }
        return same && call("check", n);
    }
}
