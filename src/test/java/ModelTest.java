import java.util.ArrayList;
import java.util.List;
import java.util.Random;

/** Holds the program against the model in many runs of calls that are drawn with fixed seeds. */
final class ModelTest {
    private static final int RUNS = 1500;
    private static final int CALLS = 512;
    private static final int LOOKS = 23 + 7 + 8 * 10;
    private static final int[] ODD = {Integer.MIN_VALUE, Integer.MIN_VALUE + 1, -1000001, -11, -2, -1, 0, 1, 2, 3, 7,
        8, 9, 10, 11, 12, 13, 17, 18, 19, 20, 21, 22, 23, 31, 32, 60, 61, 126, 127, 240, 241, 300, 301, 500, 501, 1000,
        6000, 8000, 9998, 9999, 10000, 50000, Integer.MAX_VALUE - 1, Integer.MAX_VALUE};
    private static final String[] LETTERS = {"o", "i", "p", "x", "w"};

    private final Random draw;
    private final CraneGates program = new CraneGates();
    private final Model model = new Model();
    private final List<String> told = new ArrayList<>();
    private final int[] weights = new int[14];
    private boolean right = true;

    private ModelTest(long seed) {
        draw = new Random(seed);
        for (int i = 0; i < weights.length; i++) {
            weights[i] = 1 + draw.nextInt(8);
        }
        if (draw.nextInt(5) != 0) {
            weights[12] = 1;
        }
        if (draw.nextInt(4) != 0) {
            weights[11] = 0;
        }
    }

    public static void main(String[] args) {
        Check check = new Check("ModelTest");
        for (int seed = 1; seed <= RUNS; seed++) {
            ModelTest test = new ModelTest(seed);
            test.run();
            check.that("run " + seed, test.right);
            if (!test.right) {
                test.told.subList(Math.max(0, test.told.size() - 40), test.told.size()).forEach(System.out::println);
                break;
            }
        }
        check.end();
    }

    private void run() {
        int gates = draw.nextInt(9);
        for (int i = 0; i < gates && right; i++) {
            call("gate", draw.nextInt(3), 1 + draw.nextInt(draw.nextInt(4) == 0 ? 20 : 6));
        }
        while (told.size() < CALLS - LOOKS && right) {
            step();
        }
        lookAtAll();
    }

    private void lookAtAll() {
        for (int what = 0; what < 23; what++) {
            call("count", what, 0);
        }
        for (int what = 0; what < 7; what++) {
            call("craneOf", what, 0);
        }
        for (int i = 0; i < 8; i++) {
            call("orderAt", i, 0);
            call("markAt", i, 0);
            for (int what = 0; what < 8; what++) {
                call("gateOf", i, what);
            }
        }
    }

    private void step() {
        switch (drawn()) {
            case 0: call("order", draw.nextInt(8), opening()); break;
            case 1: call("cancel", draw.nextInt(8), 0); break;
            case 2: call("inflow", draw.nextInt(3) == 0 ? draw.nextInt(20) : draw.nextInt(301), 0); break;
            case 3: call("fill", draw.nextInt(3) == 0 ? 7900 + draw.nextInt(300) : draw.nextInt(10000), 0); break;
            case 4: setting(); break;
            case 5: call("pass", 1 + draw.nextInt(6), 0); break;
            case 6: call("pass", 1 + draw.nextInt(draw.nextInt(3) == 0 ? 240 : 40), 0); break;
            case 7: look(); break;
            case 8: look(); break;
            case 9: ahead(); break;
            case 10: call("undo", 0, 0); break;
            case 11: text(); break;
            case 12: odd(); break;
            default: call("gate", draw.nextInt(3), 1 + draw.nextInt(20)); break;
        }
    }

    private int drawn() {
        int sum = 0;
        for (int w : weights) {
            sum += w;
        }
        int at = draw.nextInt(sum);
        for (int i = 0; i < weights.length; i++) {
            at -= weights[i];
            if (at < 0) {
                return i;
            }
        }
        return 0;
    }

    private int opening() {
        return draw.nextBoolean() ? 2 * draw.nextInt(6) : draw.nextInt(11);
    }

    private void setting() {
        switch (draw.nextInt(3)) {
            case 0: call("set", 0, 1 + draw.nextInt(9999)); break;
            case 1: call("set", 1, 1 + draw.nextInt(9999)); break;
            default: call("set", 2, draw.nextInt(3)); break;
        }
    }

    private void look() {
        switch (draw.nextInt(5)) {
            case 0: call("gateOf", draw.nextInt(8), draw.nextInt(8)); break;
            case 1: call("craneOf", draw.nextInt(7), 0); break;
            case 2: call("orderAt", draw.nextInt(8), 0); break;
            case 3: call("markAt", draw.nextInt(2), 0); break;
            default: call("count", draw.nextInt(23), 0); break;
        }
    }

    private void ahead() {
        switch (draw.nextInt(6)) {
            case 0: call("would", draw.nextInt(draw.nextBoolean() ? 40 : 501), draw.nextInt(5)); break;
            case 1: call("would", draw.nextInt(draw.nextBoolean() ? 40 : 501), 10 + draw.nextInt(8)); break;
            case 2: call("minutesUntil", draw.nextInt(10000), draw.nextInt(2)); break;
            case 3: call("minutesToRest", 0, 0); break;
            case 4: call("bestRule", draw.nextInt(2), 0); break;
            default: call("leastFlood", 1 + draw.nextInt(60), 0); break;
        }
    }

    private void text() {
        if (draw.nextInt(3) != 0) {
            call("clearText", 0, 0);
        }
        int orders = draw.nextInt(9);
        for (int i = 0; i < orders; i++) {
            String order = textOrder();
            if (draw.nextInt(25) == 0) {
                int at = draw.nextInt(order.length());
                order = order.substring(0, at) + (char) (32 + draw.nextInt(95)) + order.substring(at + 1);
            }
            for (char c : order.toCharArray()) {
                call("type", c, 0);
            }
        }
        call("fault", 0, 0);
        call("fault", 1, 0);
        call("play", 0, 0);
    }

    private String textOrder() {
        switch (LETTERS[draw.nextInt(5)]) {
            case "o": return "o" + number(draw.nextInt(8)) + "," + number(opening()) + ";";
            case "i": return "i" + number(draw.nextInt(302)) + ";";
            case "p": return "p" + number(1 + draw.nextInt(draw.nextInt(4) == 0 ? 241 : 20)) + ";";
            case "x": return "x" + number(draw.nextInt(8)) + ";";
            default: return "w" + number(draw.nextInt(3)) + "," + number(draw.nextInt(12) == 0 ? 21 : 1 + draw.nextInt(20)) + ";";
        }
    }

    private String number(int value) {
        switch (draw.nextInt(8)) {
            case 0: return "0" + value;
            case 1: return "00" + value;
            default: return "" + value;
        }
    }

    private void odd() {
        String[] names = {"gate", "order", "cancel", "inflow", "fill", "set", "pass", "gateOf", "craneOf", "orderAt",
            "markAt", "would", "minutesUntil", "bestRule", "leastFlood", "count", "type", "fault"};
        String name = names[draw.nextInt(names.length)];
        int a = draw.nextInt(3) == 0 ? draw.nextInt(12) : ODD[draw.nextInt(ODD.length)];
        int b = draw.nextInt(3) == 0 ? draw.nextInt(12) : ODD[draw.nextInt(ODD.length)];
        call(name, a, b);
    }

    /** Makes a call of both, unless the run is wrong or at its end. */
    private void call(String name, int a, int b) {
        if (!right || told.size() >= CALLS) {
            return;
        }
        int want = model.call(name, a, b);
        int got = Program.call(program, name, a, b);
        told.add(name + "(" + a + ", " + b + ") answered " + got + ", due is " + want);
        right = right && got == want;
    }
}
