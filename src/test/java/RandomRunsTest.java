import java.lang.reflect.Method;
import java.util.ArrayList;
import java.util.Arrays;
import java.util.List;
import java.util.Random;

/** Random runs of calls, at most 512 on an object, each answer compared with PlainModel's. */
public final class RandomRunsTest {
    private static final int RUNS = 600, CALLS = 512;

    /** The lowest and the highest number for each argument; NAMES and OFTEN (how often drawn) go alongside. */
    private static final int[][] RANGES = {
        {32, 126}, {}, {}, {}, {0, 5, 0, 8}, {0, 3, 0, 1}, {0, 5}, {0, 15, 0, 15, 0, 15, 0, 15},
        {0, 7, 0, 9}, {0, 5, 0, 1}, {0, 5, 0, 5}, {}, {0, 7, 0, 9}, {},
        {0, 6, 0, 5, 0, 2}, {}, {0, 5, 0, 15, 0, 15, 0, 3}, {-1, 5}, {0, 5},
        {0, 5, 1, 6, 0, 7}, {}, {0, 5, 0, 1},
        {0, 1}, {0, 1}, {0, 5, 0, 15, 0, 15, 0, 10, 0, 1}, {0, 9999, 1, 40, 0, 1}, {}, {}, {0, 9},
    };
    private static final String[] NAMES = {
        "write", "wipe", "fault", "lay", "man", "home", "told", "toward",
        "order", "tie", "swap", "undo", "tell", "noRow",
        "behind", "strayed", "bring", "pairs", "homeward",
        "seen", "forget", "villages",
        "strays", "lean", "storms", "march", "keep", "back", "count",
    };
    private static final int[] OFTEN = {
        1, 1, 2, 1, 12, 3, 4, 6,
        14, 8, 8, 8, 8, 1,
        12, 6, 1, 1, 8,
        8, 1, 8,
        8, 5, 10, 8, 3, 3, 12,
    };

    private static int compared = 0;

    private final Random random;
    private final int run;
    private final BootsTurnHome boots = new BootsTurnHome();
    private final PlainModel model = new PlainModel();
    private final List<String> calls = new ArrayList<>();
    private boolean wrong = false;

    private RandomRunsTest(int run) {
        this.run = run;
        this.random = new Random(run);
    }

    public static void main(String[] args) throws Exception {
        int wrongRuns = 0;
        for (int run = 0; run < RUNS; run++) {
            RandomRunsTest test = new RandomRunsTest(run);
            test.go();
            wrongRuns += test.wrong ? 1 : 0;
        }
        Check.due("wrong runs", wrongRuns, 0);
        System.out.println(RUNS + " runs, " + compared + " calls");
        Check.finish("RandomRunsTest");
    }

    private void go() throws Exception {
        if (random.nextInt(5) > 0) {
            layAnew();
        }
        while (calls.size() < CALLS && !wrong) {
            int method = draw();
            if (NAMES[method].equals("lay") && calls.size() < CALLS - 210 && random.nextInt(4) > 0) {
                layAnew();
            } else {
                compare(method, arguments(method));
            }
        }
    }

    private void layAnew() throws Exception {
        compare(1);
        String text = text();
        for (int p = 0; p < text.length() && !wrong; p++) {
            compare(0, text.charAt(p));
            if (random.nextInt(20) == 0) {
                compare(2);
            }
        }
        compare(2);
        compare(3);
    }

    private int draw() {
        int all = Arrays.stream(OFTEN).sum();
        int left = random.nextInt(all);
        int method = 0;
        while (left >= OFTEN[method]) {
            left -= OFTEN[method];
            method++;
        }
        return method;
    }

    private int[] arguments(int method) {
        int[] range = RANGES[method];
        int[] arguments = new int[range.length / 2];
        for (int k = 0; k < arguments.length; k++) {
            arguments[k] = number(range[2 * k], range[2 * k + 1], NAMES[method].equals("tie") && k == 1);
        }
        if (NAMES[method].equals("seen") && random.nextInt(4) > 0) {
            // mostly what can be seen, so that villages are left
            arguments[2] = Math.floorMod(model.behind(Math.max(0, Math.min(arguments[1], 6)), arguments[0], 2), 8);
        }
        if (NAMES[method].equals("storms") && random.nextInt(4) > 0) {
            int end = model.count(2);
            arguments[1] = model.behind(end, arguments[0], 0) + (random.nextInt(4) > 0 ? 0 : random.nextInt(3) - 1);
            arguments[2] = model.behind(end, arguments[0], 1) + (random.nextInt(4) > 0 ? 0 : random.nextInt(3) - 1);
        }
        return arguments;
    }

    private int number(int lowest, int highest, boolean truth) {
        int kind = truth ? 9 : random.nextInt(60);
        switch (kind) {
            case 0: return lowest - 1;
            case 1: return highest + 1;
            case 2: return random.nextBoolean() ? Integer.MAX_VALUE : Integer.MIN_VALUE;
            case 3: return lowest;
            case 4: return highest;
            default: return lowest + random.nextInt(highest - lowest + 1);
        }
    }

    private void compare(int method, int... arguments) throws Exception {
        Class<?>[] types = new Class<?>[arguments.length];
        Object[] values = new Object[arguments.length];
        StringBuilder call = new StringBuilder(NAMES[method]).append('(');
        for (int k = 0; k < arguments.length; k++) {
            boolean truth = NAMES[method].equals("tie") && k == 1;
            types[k] = truth ? boolean.class : int.class;
            values[k] = truth ? (Object) (arguments[k] == 1) : (Object) arguments[k];
            call.append(k == 0 ? "" : ", ").append(values[k]);
        }
        int want = answer(PlainModel.class.getMethod(NAMES[method], types), model, values);
        int got = answer(BootsTurnHome.class.getMethod(NAMES[method], types), boots, values);
        calls.add(call.append(") ").append(got).toString());
        compared++;
        if (got != want) {
            wrong = true;
            System.out.println("run " + run + ": due is " + want + " behind " + String.join("; ", calls));
        }
    }

    private static int answer(Method method, Object object, Object[] values) throws Exception {
        return (Integer) method.invoke(object, values);
    }

    // ---- texts, some of them with a fault

    private String text() {
        StringBuilder text = new StringBuilder();
        int homes = 1 + random.nextInt(4);
        int men = 1 + random.nextInt(6);
        for (int h = 0; h < homes; h++) {
            text.append('h').append(number(15)).append(',').append(number(15)).append(';');
        }
        for (int m = 0; m < men; m++) {
            int left = random.nextInt(homes);
            int right = random.nextInt(3) > 0 ? left : random.nextInt(homes);
            text.append('m').append(number(15)).append(',').append(number(15)).append(',').append(number(7))
                .append(',').append(left).append(',').append(right).append(',').append(number(4)).append(';');
        }
        for (int o = random.nextInt(7); o > 0; o--) {
            text.append('o').append(number(7)).append(',').append(number(9)).append(';');
        }
        if (random.nextBoolean()) {
            text.append('d').append(1 + random.nextInt(15)).append(';');
        }
        if (random.nextInt(4) == 0) {
            spoil(text);
        }
        return text.substring(0, Math.min(200, text.length()));
    }

    private String number(int highest) {
        int number = random.nextInt(400) == 0 ? highest + 1 : random.nextInt(highest + 1);
        return (number < 10 && random.nextInt(20) == 0 ? "0" : "") + number;
    }

    private void spoil(StringBuilder text) {
        int at = random.nextInt(text.length());
        switch (random.nextInt(4)) {
            case 0: text.deleteCharAt(at); break;
            case 1: text.insert(at, "hmod,;0123456789 x".charAt(random.nextInt(18))); break;
            case 2: text.setCharAt(at, "hmod,;0123456789 x".charAt(random.nextInt(18))); break;
            default: text.setLength(at);
        }
    }
}
