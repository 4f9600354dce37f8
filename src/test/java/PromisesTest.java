/** For each promise of the document its ordinary inputs, its edges and its wrong inputs, reckoned by hand. */
final class PromisesTest {
    private static final int INVALID = -1000001;
    private static final int IMPOSSIBLE = -1000002;
    private static final int LIMIT = -1000003;
    private static final int NOTHING = -1000004;
    private static final int SLUICE = 0;
    private static final int FLAP = 1;
    private static final int BEAM = 2;
    private static final int[] FAR_OUT = {Integer.MIN_VALUE, Integer.MIN_VALUE + 9, -1, Integer.MAX_VALUE};

    private static final Check check = new Check("PromisesTest");

    private PromisesTest() { }

    public static void main(String[] args) {
        constants();
        newObject();
        gate();
        order();
        cancel();
        inflow();
        fill();
        set();
        passBounds();
        passWater();
        passCrane();
        passRules();
        passFloods();
        passMarks();
        gateOf();
        craneOf();
        orderAt();
        markAt();
        would();
        minutesUntil();
        minutesToRest();
        bestRule();
        leastFlood();
        count();
        undo();
        undoRestoresAll();
        undoOfEachChange();
        type();
        clearText();
        faultOfForm();
        faultOfRange();
        faultOfState();
        play();
        check.end();
    }

    private static void due(String call, long got, long want) {
        check.due(call, got, want);
    }

    private static CraneGates lake(int kind, int... widths) {
        return Make.lake(kind, widths);
    }

    private static CraneGates write(CraneGates x, String text) {
        return Make.write(x, text);
    }

    private static void fault(CraneGates x, String text, int place, int reason) {
        write(x, text);
        due("fault(0) of " + text, x.fault(0), place);
        due("fault(1) of " + text, x.fault(1), reason);
        int states = x.count(11);
        int water = x.count(1);
        due("play() of " + text, x.play(), IMPOSSIBLE);
        due("count(11) after the fault", x.count(11), states);
        due("count(1) after the fault", x.count(1), water);
    }

    private static void noFault(CraneGates x, String text) {
        write(x, text);
        due("fault(0) of " + text, x.fault(0), NOTHING);
        due("fault(1) of " + text, x.fault(1), NOTHING);
    }

    private static void constants() {
        due("INVALID_ARGUMENT", CraneGates.INVALID_ARGUMENT, INVALID);
        due("NOT_POSSIBLE", CraneGates.NOT_POSSIBLE, IMPOSSIBLE);
        due("LIMIT_REACHED", CraneGates.LIMIT_REACHED, LIMIT);
        due("NOT_FOUND", CraneGates.NOT_FOUND, NOTHING);
    }

    // ---- promise 1
    private static void newObject() {
        CraneGates x = new CraneGates();
        int[] first = {0, 2000, 0, 3, 0, 0, 0, 0, 0, 0, 0, 0, 0};
        for (int what = 0; what < first.length; what++) {
            due("new count(" + what + ")", x.count(what), first[what]);
        }
        due("new count(20)", x.count(20), 8000);
        due("new count(21)", x.count(21), 6000);
        due("new count(22)", x.count(22), 0);
        int[] crane = {0, NOTHING, NOTHING, 0, 0, 0, 0};
        for (int what = 0; what < crane.length; what++) {
            due("new craneOf(" + what + ")", x.craneOf(what), crane[what]);
        }
        due("new undo()", x.undo(), IMPOSSIBLE);
        CraneGates y = new CraneGates();
        y.fill(1);
        due("count(1) of another object", x.count(1), 2000);
    }

    // ---- promise 2
    private static void gate() {
        CraneGates x = new CraneGates();
        for (int wrong : FAR_OUT) {
            due("gate(" + wrong + ", 1)", x.gate(wrong, 1), INVALID);
            due("gate(0, " + wrong + ")", x.gate(0, wrong), INVALID);
        }
        due("gate(3, 1)", x.gate(3, 1), INVALID);
        due("gate(0, 0)", x.gate(0, 0), INVALID);
        due("gate(0, 21)", x.gate(0, 21), INVALID);
        due("count(0) of wrong gates", x.count(0), 0);
        due("count(11) of wrong gates", x.count(11), 0);
        for (int gate = 0; gate < 8; gate++) {
            due("gate", x.gate(gate % 3, gate == 7 ? 20 : gate + 1), gate);
            due("kind", x.gateOf(gate, 0), gate % 3);
            due("width", x.gateOf(gate, 1), gate == 7 ? 20 : gate + 1);
            due("opening", x.gateOf(gate, 2), 0);
            due("count(0)", x.count(0), gate + 1);
        }
        due("the ninth gate", x.gate(0, 1), LIMIT);
        due("the ninth gate, of no kind", x.gate(3, 1), INVALID);
        due("the ninth gate, too wide", x.gate(0, 21), INVALID);
        due("count(0)", x.count(0), 8);
        due("undo()", x.undo(), 3);
        due("gate(1, 9) again", x.gate(1, 9), 7);
        due("its width", x.gateOf(7, 1), 9);
    }

    // ---- promise 3
    private static void order() {
        CraneGates x = lake(SLUICE, 1, 1);
        x.gate(BEAM, 1);
        for (int wrong : FAR_OUT) {
            due("order(" + wrong + ", 0)", x.order(wrong, 0), INVALID);
            due("order(0, " + wrong + ")", x.order(0, wrong), INVALID);
        }
        due("order(3, 1)", x.order(3, 1), INVALID);
        due("order(0, 11)", x.order(0, 11), INVALID);
        due("order(2, 11)", x.order(2, 11), INVALID);
        due("order(2, 9)", x.order(2, 9), IMPOSSIBLE);
        due("order(2, 1)", x.order(2, 1), IMPOSSIBLE);
        due("count(11)", x.count(11), 3);
        due("order(2, 0)", x.order(2, 0), 1);
        due("order(0, 10)", x.order(0, 10), 2);
        due("order(1, 9)", x.order(1, 9), 3);
        due("order(0, 0)", x.order(0, 0), 3);
        due("orderAt(0)", x.orderAt(0), 2);
        due("orderAt(1)", x.orderAt(1), 0);
        due("orderAt(2)", x.orderAt(2), 1);
        due("gateOf(0, 5)", x.gateOf(0, 5), 0);
        due("order(2, 3) keeps the one that waits", x.order(2, 3), IMPOSSIBLE);
        due("gateOf(2, 5)", x.gateOf(2, 5), 0);

        CraneGates y = lake(SLUICE, 1, 1, 1, 1, 1, 1, 1, 1);
        for (int gate = 0; gate < 8; gate++) {
            due("order of each gate", y.order(gate, 5), gate + 1);
        }
        due("order of all gates again", y.order(7, 6), 8);
        y.pass(1);
        due("an order for the gate of the task waits", y.order(0, 9), 8);
        due("orderAt(7)", y.orderAt(7), 0);
        due("the task stays", y.craneOf(2), 5);
    }

    // ---- promise 4
    private static void cancel() {
        CraneGates x = lake(SLUICE, 1, 1, 1);
        due("cancel(0)", x.cancel(0), IMPOSSIBLE);
        for (int wrong : FAR_OUT) {
            due("cancel(" + wrong + ")", x.cancel(wrong), INVALID);
        }
        due("cancel(3)", x.cancel(3), INVALID);
        x.order(0, 4);
        x.order(1, 5);
        x.order(2, 0);
        due("cancel(1)", x.cancel(1), 5);
        due("orderAt(0)", x.orderAt(0), 0);
        due("orderAt(1)", x.orderAt(1), 2);
        due("orderAt(2)", x.orderAt(2), NOTHING);
        due("cancel(1) again", x.cancel(1), IMPOSSIBLE);
        due("cancel(2)", x.cancel(2), 0);
        x.pass(1);
        due("cancel of the task", x.cancel(0), IMPOSSIBLE);
        due("craneOf(2)", x.craneOf(2), 4);
        due("undo()", x.undo(), 3);
        due("count(8)", x.count(8), 1);
    }

    // ---- promise 5
    private static void inflow() {
        CraneGates x = new CraneGates();
        due("inflow(300)", x.inflow(300), 0);
        due("inflow(301)", x.inflow(301), INVALID);
        for (int wrong : FAR_OUT) {
            due("inflow(" + wrong + ")", x.inflow(wrong), INVALID);
        }
        due("count(2)", x.count(2), 300);
        due("pass(2)", x.pass(2), 2600);
        due("inflow(0)", x.inflow(0), 300);
        due("pass(2)", x.pass(2), 2600);
        due("inflow(0) again", x.inflow(0), 0);
        due("it is a change", x.count(11), 4);
    }

    // ---- promise 6
    private static void fill() {
        CraneGates x = new CraneGates();
        due("fill(9999)", x.fill(9999), 2000);
        due("fill(10000)", x.fill(10000), INVALID);
        for (int wrong : FAR_OUT) {
            due("fill(" + wrong + ")", x.fill(wrong), INVALID);
        }
        due("count(11)", x.count(11), 1);
        due("fill(0)", x.fill(0), 9999);
        due("count(1)", x.count(1), 0);
        due("no water came in", x.count(5), 0);
        due("none went out", x.count(6), 0);
        due("none ran over", x.count(7), 0);
        due("no flood before a minute", x.count(10), 0);
    }

    // ---- promise 7
    private static void set() {
        CraneGates x = new CraneGates();
        due("set(0, 1)", x.set(0, 1), 8000);
        due("set(0, 9999)", x.set(0, 9999), 1);
        due("set(1, 9999)", x.set(1, 9999), 6000);
        due("set(1, 1)", x.set(1, 1), 9999);
        due("set(2, 2)", x.set(2, 2), 0);
        due("set(2, 1)", x.set(2, 1), 2);
        due("set(2, 0)", x.set(2, 0), 1);
        x.undo();
        for (int what = 0; what < 2; what++) {
            due("set(" + what + ", 0)", x.set(what, 0), INVALID);
            due("set(" + what + ", 10000)", x.set(what, 10000), INVALID);
        }
        due("set(2, 3)", x.set(2, 3), INVALID);
        due("set(3, 1)", x.set(3, 1), INVALID);
        for (int wrong : FAR_OUT) {
            due("set(" + wrong + ", 1)", x.set(wrong, 1), INVALID);
            due("set(2, " + wrong + ")", x.set(2, wrong), INVALID);
            due("set(0, " + wrong + ")", x.set(0, wrong), INVALID);
            due("set(1, " + wrong + ")", x.set(1, wrong), INVALID);
        }
        due("count(20)", x.count(20), 9999);
        due("count(21)", x.count(21), 1);
        due("count(22)", x.count(22), 1);
        due("count(11)", x.count(11), 3);
    }

    // ---- promise 8
    private static void passBounds() {
        CraneGates x = new CraneGates();
        due("pass(0)", x.pass(0), INVALID);
        due("pass(241)", x.pass(241), INVALID);
        for (int wrong : FAR_OUT) {
            due("pass(" + wrong + ")", x.pass(wrong), INVALID);
        }
        due("count(4)", x.count(4), 0);
        for (int i = 0; i < 208; i++) {
            due("pass(240)", x.pass(240), 2000);
        }
        due("count(4)", x.count(4), 49920);
        due("pass(81)", x.pass(81), LIMIT);
        due("pass(241) near the limit", x.pass(241), INVALID);
        fault(x, "p80;p1;", 4, 3);
        fault(x, "p241;", 0, 2);
        noFault(x, "p80;");
        due("count(4)", x.count(4), 49920);
        due("pass(80)", x.pass(80), 2000);
        due("count(4)", x.count(4), 50000);
        due("pass(1)", x.pass(1), LIMIT);
        due("count(11)", x.count(11), 4);
        x.inflow(10);
        due("would goes beyond the limit", x.would(5, 0), 2050);
        due("minutesUntil goes beyond the limit", x.minutesUntil(2050, 0), 5);
        due("undo()", x.undo(), 3);
        due("undo()", x.undo(), 2);
        due("pass(80) again", x.pass(80), 2000);
    }

    // what comes in, goes out and runs over in a minute
    private static void passWater() {
        CraneGates x = lake(SLUICE, 7, 20);
        x.order(0, 1);
        x.fill(1999);
        x.inflow(1);
        // the head is 2, though the lake has 2000 when the water goes out: 7 * 1 * 2 / 10 = 1
        due("the head of before", x.pass(1), 1999);
        due("gateOf(0, 4)", x.gateOf(0, 4), 1);
        x.fill(2000);
        // the head is 3: 7 * 3 / 10 = 2
        due("pass(1)", x.pass(1), 1999);
        due("gateOf(0, 4)", x.gateOf(0, 4), 3);
        x.order(1, 10);
        x.fill(0);
        x.inflow(0);
        // one minute on the way, then ten to open; nothing is in the lake
        due("pass(11)", x.pass(11), 0);
        due("gateOf(1, 2)", x.gateOf(1, 2), 10);
        x.inflow(15);
        // the head is 1: gate 0 lets 7 * 1 / 10 = 0 out, gate 1 would let 20 out, but there are 15
        due("no more than there is", x.pass(1), 0);
        due("gateOf(1, 3)", x.gateOf(1, 3), 20);
        due("gateOf(1, 4)", x.gateOf(1, 4), 15);
        due("count(5)", x.count(5), 17);
        due("count(6)", x.count(6), 18);

        CraneGates y = lake(FLAP, 20, 13);
        y.set(0, 9999);
        y.fill(7000);
        y.inflow(40);
        // a head of 8: each flap lets its width out though it is closed: 20 and 13
        due("flaps at a head of 8", y.pass(1), 7007);
        due("gateOf(0, 4)", y.gateOf(0, 4), 20);
        due("gateOf(1, 4)", y.gateOf(1, 4), 13);
        y.fill(6999);
        due("flaps at a head of 7", y.pass(1), 7039);
        due("gateOf(1, 4)", y.gateOf(1, 4), 13);
        y.fill(9990);
        // 9990 + 40 - 33 = 9997: what runs over is reckoned behind what goes out
        due("nothing runs over", y.pass(1), 9997);
        due("count(7)", y.count(7), 0);
        y.inflow(50);
        // 9997 + 50 - 33 = 10014
        due("15 run over", y.pass(1), 9999);
        due("count(7)", y.count(7), 15);
        due("count(5)", y.count(5), 40 * 3 + 50);
        due("count(6)", y.count(6), 33 * 3);

        CraneGates z = lake(SLUICE, 20, 20);
        write(z, "o0,10;o1,10;p21;").play();
        z.fill(30);
        // the gates let out by their numbers: 20 by the first one, what is left by the second one
        int first = z.gateOf(0, 4);
        int second = z.gateOf(1, 4);
        due("pass(1)", z.pass(1), 0);
        due("gate 0 first", z.gateOf(0, 4) - first, 20);
        due("gate 1 then", z.gateOf(1, 4) - second, 10);

        CraneGates beam = lake(BEAM, 3);
        beam.order(0, 10);
        due("a beam at 8", beam.pass(4), 2000);
        // 3 * 10 * 3 / 10 = 9
        due("a beam at 10", beam.pass(1), 1991);
    }

    // the crane's way and work
    private static void passCrane() {
        CraneGates x = lake(SLUICE, 1, 1, 1);
        x.gate(BEAM, 1);
        x.fill(0);
        x.order(2, 2);
        x.pass(1);
        due("craneOf(0)", x.craneOf(0), 1);
        x.pass(1);
        due("craneOf(0)", x.craneOf(0), 2);
        due("gateOf(2, 2)", x.gateOf(2, 2), 0);
        x.pass(1);
        due("gateOf(2, 2)", x.gateOf(2, 2), 1);
        due("craneOf(1)", x.craneOf(1), 2);
        due("craneOf(2)", x.craneOf(2), 2);
        x.pass(1);
        due("gateOf(2, 2)", x.gateOf(2, 2), 2);
        due("craneOf(1) when done", x.craneOf(1), NOTHING);
        due("craneOf(2) when done", x.craneOf(2), NOTHING);
        due("craneOf(4)", x.craneOf(4), 1);
        due("craneOf(3)", x.craneOf(3), 4);
        x.pass(1);
        due("nothing to do", x.craneOf(3), 4);
        x.order(2, 1);
        x.order(3, 4);
        x.pass(1);
        due("it lowers", x.gateOf(2, 2), 1);
        due("moved", x.gateOf(2, 7), 3);
        due("the next task waits for the next minute", x.craneOf(1), NOTHING);
        x.pass(2);
        due("a beam by 2", x.gateOf(3, 2), 2);
        x.pass(1);
        due("a beam by 2", x.gateOf(3, 2), 4);
        due("moved", x.gateOf(3, 7), 2);
        x.order(3, 0);
        x.pass(2);
        due("a beam is lowered by 2", x.gateOf(3, 2), 0);
        x.order(0, 1);
        x.pass(1);
        due("it goes back", x.craneOf(0), 2);
        x.pass(3);
        due("craneOf(0)", x.craneOf(0), 0);
        due("gateOf(0, 2)", x.gateOf(0, 2), 1);
        due("craneOf(4)", x.craneOf(4), 5);

        CraneGates y = lake(SLUICE, 1, 1, 1, 1);
        y.order(3, 0);
        y.order(2, 0);
        y.order(1, 1);
        y.order(0, 0);
        y.pass(1);
        due("two are done at once, the third is taken", y.craneOf(4), 2);
        due("craneOf(1)", y.craneOf(1), 1);
        due("craneOf(0)", y.craneOf(0), 1);
        due("craneOf(3)", y.craneOf(3), 1);
        due("count(8)", y.count(8), 1);
        y.pass(1);
        due("craneOf(4)", y.craneOf(4), 3);
        y.pass(1);
        due("craneOf(4)", y.craneOf(4), 4);
        due("nothing was done", y.craneOf(3), 2);
        due("craneOf(0)", y.craneOf(0), 1);
    }

    // the three rules, and what is first among equals
    private static void passRules() {
        int[] takenBy = {6, 3, 4};
        for (int rule = 0; rule < 3; rule++) {
            CraneGates x = lake(SLUICE, 1, 1, 1, 1, 1, 1, 1);
            x.order(4, 0);
            write(x, "o4,1;p5;").play();
            due("the crane is at 4", x.craneOf(0), 4);
            x.order(6, 2);
            x.order(3, 3);
            x.order(5, 4);
            x.order(4, 5);
            x.order(0, 4);
            if (rule == 1) {
                x.cancel(4);
            }
            x.set(2, rule);
            x.pass(1);
            due("taken by rule " + rule, x.craneOf(1), rule == 2 ? 5 : takenBy[rule]);
        }
        CraneGates y = lake(SLUICE, 1, 1, 1);
        y.order(0, 10);
        y.pass(10);
        y.order(1, 9);
        y.order(2, 10);
        y.order(0, 0);
        y.set(2, 2);
        y.pass(1);
        due("lowering is a change, too, but the first one of the greatest is taken", y.craneOf(1), 2);
        y.undo();
        y.order(0, 1);
        y.order(1, 10);
        y.pass(1);
        due("the first one, replaced at its place", y.craneOf(1), 1);
        CraneGates z = lake(SLUICE, 1, 1, 1);
        z.order(0, 10);
        z.pass(10);
        z.order(1, 8);
        z.order(0, 1);
        z.set(2, 2);
        z.pass(1);
        due("lowering by 9 rather than raising by 8", z.craneOf(1), 0);
    }

    private static void passFloods() {
        CraneGates x = lake(SLUICE, 1, 1, 1, 1, 1);
        x.set(0, 3000);
        x.set(1, 2900);
        write(x, "o2,10;p12;").play();
        due("the crane is at 2", x.craneOf(0), 2);
        x.fill(2999);
        x.pass(1);
        due("no flood", x.count(9), 0);
        x.fill(3000);
        x.pass(1);
        due("a flood", x.count(9), 1);
        due("count(10)", x.count(10), 1);
        due("gate 2 is open, 1 and 3 are as near, the lower one is taken", x.craneOf(1), 1);
        due("craneOf(2)", x.craneOf(2), 10);
        due("craneOf(0)", x.craneOf(0), 1);
        x.fill(2900);
        x.order(4, 3);
        x.pass(1);
        due("it lasts at its end's level", x.count(9), 1);
        due("gateOf(1, 2)", x.gateOf(1, 2), 1);
        due("the order waits", x.count(8), 1);
        x.fill(2899);
        x.pass(1);
        due("it ended", x.count(9), 0);
        due("the task is left", x.craneOf(5), 1);
        due("without a mark", x.craneOf(6), 0);
        due("the order is taken in that minute", x.craneOf(1), 4);
        due("craneOf(0)", x.craneOf(0), 2);

        CraneGates y = lake(SLUICE, 1, 1);
        y.fill(8000);
        y.pass(21);
        due("both are open: 10 + 1 + 10", y.gateOf(1, 2), 10);
        due("tasks of the flood are done, too", y.craneOf(4), 2);
        due("craneOf(1)", y.craneOf(1), NOTHING);
        y.order(0, 5);
        y.pass(5);
        due("no order is taken in a flood", y.gateOf(0, 2), 10);
        due("craneOf(3)", y.craneOf(3), 21);
        y.gate(BEAM, 1);
        y.pass(6);
        due("the new gate is opened: 1 + 5", y.gateOf(2, 2), 10);
        due("craneOf(4)", y.craneOf(4), 3);
        due("craneOf(5)", y.craneOf(5), 0);

        CraneGates z = new CraneGates();
        z.set(0, 100);
        z.set(1, 5000);
        z.pass(1);
        due("it begins", z.count(9), 1);
        z.pass(1);
        due("it ends in the next minute and does not begin in that one", z.count(9), 0);
        z.pass(1);
        due("it begins again", z.count(10), 2);
    }

    private static void passMarks() {
        CraneGates x = lake(SLUICE, 1, 1, 1);
        x.set(0, 3000);
        x.set(1, 2500);
        x.order(2, 4);
        x.order(1, 3);
        x.pass(3);
        due("gateOf(2, 2)", x.gateOf(2, 2), 1);
        x.fill(3000);
        x.pass(3);
        due("the task was left", x.craneOf(5), 1);
        due("gateOf(2, 6)", x.gateOf(2, 6), 4);
        due("craneOf(6)", x.craneOf(6), 1);
        due("markAt(0)", x.markAt(0), 2);
        due("opened for the flood", x.gateOf(2, 2), 4);
        due("the flood's task", x.craneOf(2), 10);
        x.fill(2000);
        x.pass(1);
        due("the mark is taken and done at once, then the order", x.craneOf(6), 0);
        due("craneOf(4)", x.craneOf(4), 1);
        due("craneOf(5)", x.craneOf(5), 2);
        due("craneOf(1)", x.craneOf(1), 1);
        due("craneOf(0)", x.craneOf(0), 1);

        CraneGates z = lake(SLUICE, 1, 1);
        z.order(1, 4);
        z.pass(1);
        z.fill(8000);
        z.pass(2);
        due("a mark alone", z.gateOf(1, 6), 4);
        due("its gate by now", z.gateOf(1, 2), 2);
        z.fill(0);
        due("back to it, 3 and 4", z.minutesToRest(), 2);
        z.pass(1);
        due("craneOf(1)", z.craneOf(1), 1);
        due("craneOf(2)", z.craneOf(2), 4);

        CraneGates y = lake(SLUICE, 1, 1, 1);
        y.set(0, 3000);
        y.set(1, 2500);
        y.order(1, 4);
        y.pass(2);
        y.fill(3000);
        y.pass(2);
        due("gateOf(1, 2)", y.gateOf(1, 2), 3);
        y.order(1, 2);
        due("an order takes the mark away", y.markAt(0), NOTHING);
        due("gateOf(1, 6)", y.gateOf(1, 6), NOTHING);
        due("undo()", y.undo(), 3);
        due("the mark is back", y.markAt(0), 1);
        y.order(0, 5);
        due("an order for another gate does not", y.markAt(0), 1);
        y.fill(0);
        y.pass(1);
        due("the mark goes ahead of the order", y.orderAt(0), 0);
        due("and is gone then", y.markAt(0), NOTHING);
        due("it is done from 3 to 4", y.gateOf(1, 2), 4);
        due("craneOf(4)", y.craneOf(4), 1);
        due("craneOf(5)", y.craneOf(5), 2);
        y.pass(1);
        due("then the order", y.craneOf(1), 0);
        y.order(1, 0);
        y.fill(3000);
        y.pass(1);
        due("marked again", y.gateOf(0, 6), 5);
        due("craneOf(6)", y.craneOf(6), 1);
        y.fill(0);
        y.pass(1);
        due("the mark before the order that waits", y.craneOf(1), 0);
        due("as it was told", y.craneOf(2), 5);
        due("the order waits", y.orderAt(0), 1);
    }

    // ---- promise 9
    private static void gateOf() {
        CraneGates x = lake(FLAP, 9, 5);
        x.gate(BEAM, 20);
        for (int wrong : FAR_OUT) {
            due("gateOf(" + wrong + ", 0)", x.gateOf(wrong, 0), INVALID);
            due("gateOf(0, " + wrong + ")", x.gateOf(0, wrong), INVALID);
        }
        due("gateOf(3, 0)", x.gateOf(3, 0), INVALID);
        due("gateOf(3, 5)", x.gateOf(3, 5), INVALID);
        due("gateOf(0, 8)", x.gateOf(0, 8), INVALID);
        due("gateOf(0, 5)", x.gateOf(0, 5), NOTHING);
        due("gateOf(0, 6)", x.gateOf(0, 6), NOTHING);
        x.order(0, 7);
        due("gateOf(0, 5)", x.gateOf(0, 5), 7);
        due("gateOf(1, 5)", x.gateOf(1, 5), NOTHING);
        x.pass(7);
        int[] values = {FLAP, 9, 7};
        for (int what = 0; what < values.length; what++) {
            due("gateOf(0, " + what + ")", x.gateOf(0, what), values[what]);
        }
        due("gateOf(0, 7)", x.gateOf(0, 7), 7);
        due("gateOf(1, 7)", x.gateOf(1, 7), 0);
        x.fill(9999);
        due("9 * 7 * 10 / 10 + 9", x.gateOf(0, 3), 72);
        due("closed: its width", x.gateOf(1, 3), 5);
        x.fill(7000);
        due("9 * 7 * 8 / 10 + 9 rounded down", x.gateOf(0, 3), 59);
        x.fill(6999);
        due("9 * 7 * 7 / 10", x.gateOf(0, 3), 44);
        x.fill(0);
        due("however little the lake has", x.gateOf(0, 3), 6);
        due("a beam that is closed", x.gateOf(2, 3), 0);
        x.order(2, 10);
        x.fill(9999);
        x.set(0, 9999);
        x.set(1, 1);
        x.order(1, 0);
        write(x, "x1;i0;").play();
        x.fill(0);
        x.pass(2 + 4);
        due("a beam at 8", x.gateOf(2, 2), 8);
        x.fill(9998);
        due("a beam at 8", x.gateOf(2, 3), 0);
        x.fill(0);
        x.pass(1);
        due("a beam at 10", x.gateOf(2, 3), 20);
        x.fill(9998);
        due("a beam at 10, a head of 10", x.gateOf(2, 3), 200);
    }

    // ---- promise 10
    private static void craneOf() {
        CraneGates x = lake(SLUICE, 1, 1, 1);
        due("craneOf(7)", x.craneOf(7), INVALID);
        for (int wrong : FAR_OUT) {
            due("craneOf(" + wrong + ")", x.craneOf(wrong), INVALID);
        }
        x.order(2, 10);
        due("an order that waits is no task", x.craneOf(1), NOTHING);
        x.pass(4);
        int[] values = {2, 2, 10, 4, 0, 0, 0};
        for (int what = 0; what < values.length; what++) {
            due("craneOf(" + what + ")", x.craneOf(what), values[what]);
        }
        x.fill(9000);
        x.pass(1);
        int[] flooded = {2, 2, 10, 5, 0, 1, 1};
        for (int what = 0; what < flooded.length; what++) {
            due("craneOf(" + what + ") in the flood", x.craneOf(what), flooded[what]);
        }
        x.pass(7);
        due("done", x.craneOf(4), 1);
        due("craneOf(1)", x.craneOf(1), NOTHING);
        due("craneOf(2)", x.craneOf(2), NOTHING);
    }

    // ---- promises 11 and 12
    private static void orderAt() {
        CraneGates x = lake(SLUICE, 1, 1, 1, 1, 1, 1, 1, 1);
        due("orderAt(0)", x.orderAt(0), NOTHING);
        for (int gate = 7; gate >= 0; gate--) {
            x.order(gate, gate);
        }
        for (int index = 0; index < 8; index++) {
            due("orderAt(" + index + ")", x.orderAt(index), 7 - index);
            due("gateOf(.., 5)", x.gateOf(index, 5), index);
        }
        due("orderAt(8)", x.orderAt(8), NOTHING);
        due("orderAt(most)", x.orderAt(Integer.MAX_VALUE), NOTHING);
        due("orderAt(-1)", x.orderAt(-1), INVALID);
        due("orderAt(least)", x.orderAt(Integer.MIN_VALUE), INVALID);
        x.pass(1);
        due("the first one is taken", x.orderAt(0), 6);
        due("orderAt(7)", x.orderAt(7), NOTHING);
        x.order(7, 3);
        due("orderAt(7)", x.orderAt(7), 7);
    }

    private static void markAt() {
        CraneGates x = lake(SLUICE, 1, 1);
        due("markAt(0)", x.markAt(0), NOTHING);
        due("markAt(-1)", x.markAt(-1), INVALID);
        due("markAt(least)", x.markAt(Integer.MIN_VALUE), INVALID);
        due("markAt(most)", x.markAt(Integer.MAX_VALUE), NOTHING);
        x.order(1, 6);
        x.pass(1);
        x.fill(9999);
        x.pass(1);
        due("markAt(0)", x.markAt(0), 1);
        due("markAt(1)", x.markAt(1), NOTHING);
        due("markAt(-1)", x.markAt(-1), INVALID);
    }

    // ---- promise 13
    private static void would() {
        CraneGates x = lake(SLUICE, 10, 10, 10);
        x.inflow(5);
        due("would(-1, 0)", x.would(-1, 0), INVALID);
        due("would(501, 0)", x.would(501, 0), INVALID);
        for (int wrong : FAR_OUT) {
            due("would(" + wrong + ", 0)", x.would(wrong, 0), INVALID);
            due("would(0, " + wrong + ")", x.would(0, wrong), INVALID);
        }
        for (int what = 5; what < 10; what++) {
            due("would(0, " + what + ")", x.would(0, what), INVALID);
        }
        due("would(0, 13)", x.would(0, 13), INVALID);
        due("would(0, 12)", x.would(0, 12), 0);
        due("would(500, 0)", x.would(500, 0), 4500);
        x.order(2, 3);
        x.order(1, 1);
        due("would(0, 3)", x.would(0, 3), 2);
        due("would(1, 3)", x.would(1, 3), 1);
        due("would(6, 3)", x.would(6, 3), 0);
        due("would(1, 1)", x.would(1, 1), 1);
        due("would(4, 1)", x.would(4, 1), 2);
        due("would(4, 12)", x.would(4, 12), 2);
        due("would(5, 12)", x.would(5, 12), 3);
        due("would(7, 11)", x.would(7, 11), 1);
        due("would(7, 10)", x.would(7, 10), 0);
        due("would(3, 0): 2000 + 3 * 5 - 3", x.would(3, 0), 2012);
        due("nothing has changed", x.count(4), 0);
        due("count(8)", x.count(8), 2);
        due("count(11)", x.count(11), 4);
        x.pass(4);
        x.fill(8000);
        due("would(0, 4)", x.would(0, 4), 0);
        due("would(1, 4)", x.would(1, 4), 1);
        due("would(0, 2)", x.would(0, 2), 0);
        due("would(1, 2)", x.would(1, 2), 1);
        x.pass(1);
        due("would(0, 4)", x.would(0, 4), 1);
        due("would(0, 2)", x.would(0, 2), 1);
    }

    // ---- promise 14
    private static void minutesUntil() {
        CraneGates x = new CraneGates();
        due("minutesUntil(-1, 0)", x.minutesUntil(-1, 0), INVALID);
        due("minutesUntil(10000, 0)", x.minutesUntil(10000, 0), INVALID);
        due("minutesUntil(0, -1)", x.minutesUntil(0, -1), INVALID);
        due("minutesUntil(0, 2)", x.minutesUntil(0, 2), INVALID);
        due("minutesUntil(2000, 0)", x.minutesUntil(2000, 0), 0);
        due("minutesUntil(2000, 1)", x.minutesUntil(2000, 1), 0);
        due("minutesUntil(2001, 0)", x.minutesUntil(2001, 0), NOTHING);
        due("minutesUntil(1999, 1)", x.minutesUntil(1999, 1), NOTHING);
        x.inflow(1);
        due("in the last minute", x.minutesUntil(3000, 0), 1000);
        due("a minute later", x.minutesUntil(3001, 0), NOTHING);
        x.inflow(7);
        due("2000 + 7 * 143 is 3001", x.minutesUntil(3000, 0), 143);
        due("minutesUntil(9999, 1)", x.minutesUntil(9999, 1), 0);
        CraneGates y = lake(SLUICE, 20);
        y.fill(0);
        due("minutesUntil(0, 1)", y.minutesUntil(0, 1), 0);
        y.fill(900);
        y.order(0, 10);
        // the head is 1: 2, 4, 6, 8, 10, .. buckets go out
        due("900 - 2 - 4 - 6", y.minutesUntil(888, 1), 3);
        due("minutesUntil(889, 1)", y.minutesUntil(889, 1), 3);
        due("minutesUntil(887, 1)", y.minutesUntil(887, 1), 4);
        due("the lake is as it was", y.count(1), 900);
    }

    // ---- promise 15
    private static void minutesToRest() {
        CraneGates x = lake(SLUICE, 1, 1, 1);
        due("nothing to do", x.minutesToRest(), 0);
        x.order(0, 0);
        due("an order that is done at once when it is taken", x.minutesToRest(), 1);
        x.order(2, 3);
        due("2 on the way and 3", x.minutesToRest(), 5);
        x.pass(4);
        due("minutesToRest()", x.minutesToRest(), 1);
        x.pass(1);
        due("minutesToRest()", x.minutesToRest(), 0);
        x.fill(8000);
        due("no flood yet", x.minutesToRest(), 0);
        x.pass(1);
        due("a flood is no rest", x.minutesToRest(), restOfFlood());
        CraneGates y = new CraneGates();
        y.fill(9000);
        y.pass(1);
        due("a flood without an end", y.minutesToRest(), NOTHING);
        y.fill(5999);
        due("a flood that ends", y.minutesToRest(), 1);
        CraneGates z = lake(SLUICE, 20);
        z.set(0, 2000);
        z.set(1, 1976);
        z.order(0, 2);
        // at the beginning a flood, so the order waits: 2000 - 20 * 3 / 10 = 1994; then, at a head of 2,
        // 20 * 2 * 2 / 10 = 8: 1986, 12: 1974, which ends the flood; the order lowers the gate from 3 to 2
        due("count(1) behind 3 minutes", z.would(3, 0), 1974);
        due("minutesToRest()", z.minutesToRest(), 4);
        // 999 - 999 = 0, which ends the flood in the next minute; 1001 - 2 = 999 at a head of 2, then the same
        due("in the last minute", slowFlood(999).minutesToRest(), 1000);
        due("a minute later", slowFlood(1001).minutesToRest(), NOTHING);
        due("in the last minute", slowFlood(999).bestRule(1), 1000);
        due("a minute later", slowFlood(1001).bestRule(1), NOTHING);
    }

    /** A flood that is due, an order that waits for its end, and an open sluice that lets head buckets out a minute. */
    private static CraneGates slowFlood(int buckets) {
        CraneGates x = lake(SLUICE, 1);
        write(x, "o0,10;p10;").play();
        x.set(0, 999);
        x.set(1, 1);
        x.fill(buckets);
        x.order(0, 10);
        return x;
    }

    /** How long the flood of minutesToRest() lasts, by the crane's way: -1 is a minute on the rail. */
    private static int restOfFlood() {
        int minutes = 0;
        int[] openings = {0, 0, 4};
        int[] way = {2, 2, 2, 2, 2, 2, -1, 1, 1, 1, 1, 1, 1, 1, 1, 1, 1, -1, 0, 0, 0, 0, 0, 0, 0, 0, 0, 0};
        int water = 8000 - 4 * 9 / 10;
        while (water >= 6000) {
            if (minutes < way.length && way[minutes] >= 0) {
                openings[way[minutes]]++;
            }
            int head = water / 1000 + 1;
            for (int opening : openings) {
                water -= opening * head / 10;
            }
            minutes++;
        }
        return minutes + 1;
    }

    // ---- promise 16
    private static void bestRule() {
        CraneGates x = lake(SLUICE, 1, 1, 1, 1, 1, 1, 1, 1);
        due("bestRule(-1)", x.bestRule(-1), INVALID);
        due("bestRule(2)", x.bestRule(2), INVALID);
        for (int wrong : FAR_OUT) {
            due("bestRule(" + wrong + ")", x.bestRule(wrong), INVALID);
        }
        due("at rest", x.bestRule(0), 0);
        due("at rest", x.bestRule(1), 0);
        x.order(7, 1);
        x.order(1, 1);
        // rule 0: 7 + 1 + 6 + 1, rule 1: 1 + 1 + 6 + 1, rule 2 as rule 0
        due("bestRule(0)", x.bestRule(0), 1);
        due("bestRule(1)", x.bestRule(1), 9);
        x.order(1, 2);
        // rule 2 takes gate 1 first, too, but rule 1 is lower
        due("bestRule(0)", x.bestRule(0), 1);
        due("bestRule(1)", x.bestRule(1), 10);
        x.set(2, 2);
        due("whatever the rule is now", x.bestRule(0), 1);
        due("count(22)", x.count(22), 2);
        CraneGates z = lake(SLUICE, 1, 1, 1, 1, 1, 1, 1, 1);
        write(z, "o3,1;p4;").play();
        z.order(4, 1);
        z.order(7, 1);
        z.order(0, 9);
        // from 3: rule 0 goes to 4, 7, 0: 1 + 3 + 7; rule 1 the same; rule 2 goes to 0, 4, 7: 3 + 4 + 3
        due("rule 2", z.bestRule(0), 2);
        due("10 on the way and 1 + 1 + 9", z.bestRule(1), 21);
        due("minutesToRest() by rule 0", z.minutesToRest(), 22);
        CraneGates y = lake(SLUICE, 1);
        y.gate(BEAM, 1);
        y.inflow(300);
        y.fill(9000);
        y.order(0, 1);
        due("a flood without an end", y.bestRule(0), NOTHING);
        due("a flood without an end", y.bestRule(1), NOTHING);
        due("bestRule(2)", y.bestRule(2), INVALID);
    }

    // ---- promise 17
    private static void leastFlood() {
        CraneGates x = new CraneGates();
        due("leastFlood(0)", x.leastFlood(0), INVALID);
        due("leastFlood(61)", x.leastFlood(61), INVALID);
        for (int wrong : FAR_OUT) {
            due("leastFlood(" + wrong + ")", x.leastFlood(wrong), INVALID);
        }
        due("2000 + 19 * 300 < 8000", x.leastFlood(20), NOTHING);
        due("2000 + 20 * 300 = 8000", x.leastFlood(21), 300);
        due("2000 + 59 * 102 = 8018", x.leastFlood(60), 102);
        x.inflow(300);
        due("whatever the inflow is now", x.leastFlood(60), 102);
        due("count(2)", x.count(2), 300);
        x.fill(7999);
        due("only the beginning of one minute", x.leastFlood(1), NOTHING);
        due("leastFlood(2)", x.leastFlood(2), 1);
        x.fill(8000);
        due("it is due", x.leastFlood(1), 0);
        x.pass(1);
        x.fill(7000);
        due("there is one", x.leastFlood(1), 0);
        due("there is one, but wrong", x.leastFlood(61), INVALID);
        x.fill(0);
        x.pass(1);
        due("there is none any more", x.leastFlood(1), NOTHING);
        CraneGates y = lake(SLUICE, 20);
        y.set(0, 2050);
        y.order(0, 10);
        // at a head of 3 go out 6, 12, 18, .. in a minute: by 56 the lake has 2050 behind one minute
        due("leastFlood(2)", y.leastFlood(2), 56);
        // (2000 + 2 i - 18 >= 2050 from i = 34 on)
        due("leastFlood(3)", y.leastFlood(3), 34);
        due("nothing has changed", y.count(4), 0);
    }

    // ---- promise 18
    private static void count() {
        CraneGates x = lake(FLAP, 20, 20);
        for (int what = 13; what < 20; what++) {
            due("count(" + what + ")", x.count(what), INVALID);
        }
        due("count(23)", x.count(23), INVALID);
        for (int wrong : FAR_OUT) {
            due("count(" + wrong + ")", x.count(wrong), INVALID);
        }
        x.inflow(300);
        x.fill(9950);
        x.order(1, 4);
        write(x, "i1;");
        x.pass(2);
        // 9950 + 300 - 40, and the same again; 211 and 260 run over; the flood begins at once
        // the crane is at gate 0, raises it: 20 at a head of 10 for each step: 20, 40 more
        int[] values = {2, 9999, 300, 10, 2, 600, 40 + 20 + 40 + 40, 191 + 220, 1, 1, 1, 4, 3};
        for (int what = 0; what < values.length; what++) {
            due("count(" + what + ")", x.count(what), values[what]);
        }
        int[] heads = {0, 1, 999, 1, 1000, 2, 1001, 2, 7999, 8, 8999, 9, 9000, 10, 9999, 10};
        for (int i = 0; i < heads.length; i += 2) {
            x.fill(heads[i]);
            due("the head of " + heads[i], x.count(3), heads[i + 1]);
        }
        due("count(11)", x.count(11), 4);
    }

    // ---- promise 19
    private static void undo() {
        CraneGates x = new CraneGates();
        due("undo()", x.undo(), IMPOSSIBLE);
        x.inflow(1);
        due("count(11)", x.count(11), 1);
        due("undo()", x.undo(), 0);
        due("count(2)", x.count(2), 0);
        due("undo()", x.undo(), IMPOSSIBLE);
        for (int i = 1; i <= 6; i++) {
            x.inflow(i);
            due("count(11)", x.count(11), Math.min(i, 4));
        }
        x.inflow(301);
        x.cancel(0);
        for (int left = 3; left >= 0; left--) {
            due("undo()", x.undo(), left);
            due("count(2)", x.count(2), left + 2);
        }
        due("undo()", x.undo(), IMPOSSIBLE);
        due("count(2)", x.count(2), 2);
        x.inflow(9);
        x.inflow(10);
        due("undo()", x.undo(), 1);
        x.inflow(11);
        due("undo()", x.undo(), 1);
        due("count(2)", x.count(2), 9);
        write(x, "i20;");
        due("the text is no change", x.count(11), 1);
        x.play();
        due("undo()", x.undo(), 1);
        due("the text stays", x.count(12), 4);
        due("count(2)", x.count(2), 9);
        due("undo()", x.undo(), 0);
        due("the text stays", x.count(12), 4);
    }

    private static void undoRestoresAll() {
        CraneGates x = busyLake();
        int[] before = allOf(x);
        write(x, "w0,7;o2,3;x1;i200;p240;").play();
        x.set(0, 9);
        x.set(1, 8);
        x.pass(240);
        for (int i = 0; i < 4; i++) {
            x.undo();
        }
        due("history", x.count(11), 0);
        same("undone", allOf(x), before);
    }

    private static void undoOfEachChange() {
        String[] names = {"gate", "order", "cancel", "inflow", "fill", "set", "set", "set", "pass", "pass", "play"};
        int[] first = {1, 2, 1, 77, 5, 0, 1, 2, 1, 200, 0};
        int[] second = {13, 7, 0, 0, 0, 99, 98, 1, 0, 0, 0};
        for (int i = 0; i < names.length; i++) {
            CraneGates x = write(busyLake(), "w0,7;o2,3;x1;i200;p240;");
            int[] before = allOf(x);
            int answer = Program.call(x, names[i], first[i], second[i]);
            due(names[i] + " is a change", answer >= 0 ? 1 : 0, 1);
            due("something is another", java.util.Arrays.equals(before, allOf(x)) ? 1 : 0, 0);
            due("undo() of " + names[i], x.undo(), 3);
            same("undo() of " + names[i], allOf(x), before);
        }
    }

    /** A lake with a flood, a task, a mark and an order that waits, and with a count other than 0 of everything. */
    private static CraneGates busyLake() {
        CraneGates x = Make.busy();
        due("busy: a flood", x.count(9), 1);
        due("busy: a mark", x.craneOf(6), 1);
        due("busy: an order", x.count(8), 1);
        for (int what = 5; what <= 8; what++) {
            due("busy: count(" + what + ")", x.count(what) > 0 ? 1 : 0, 1);
        }
        for (int what = 0; what <= 6; what++) {
            due("busy: craneOf(" + what + ")", x.craneOf(what) > 0 ? 1 : 0, 1);
        }
        return x;
    }

    private static void same(String what, int[] got, int[] want) {
        Looks.same(check, what, got, want);
    }

    private static int[] allOf(CraneGates x) {
        return Looks.state(x);
    }

    // ---- promises 20 and 21
    private static void type() {
        CraneGates x = new CraneGates();
        due("type(31)", x.type(31), INVALID);
        due("type(127)", x.type(127), INVALID);
        for (int wrong : FAR_OUT) {
            due("type(" + wrong + ")", x.type(wrong), INVALID);
        }
        due("type(65536 + 'p')", x.type(65536 + 'p'), INVALID);
        for (int length = 1; length <= 60; length++) {
            due("type", x.type(length % 2 == 0 ? 32 : 126), length);
        }
        due("the 61st", x.type(65), LIMIT);
        due("the 61st, wrong", x.type(31), INVALID);
        due("count(12)", x.count(12), 60);
        due("count(11)", x.count(11), 0);
    }

    private static void clearText() {
        CraneGates x = new CraneGates();
        due("clearText()", x.clearText(), 0);
        write(x, "p5;oops");
        due("clearText()", x.clearText(), 7);
        due("count(12)", x.count(12), 0);
        due("clearText()", x.clearText(), 0);
        due("fault(0)", x.fault(0), NOTHING);
        x.type('p');
        due("what was cleared does not come back", x.fault(1), 1);
        x.type('7');
        x.type(';');
        due("fault(1)", x.fault(1), NOTHING);
        due("count(11)", x.count(11), 0);
    }

    // ---- promise 22
    private static void faultOfForm() {
        CraneGates x = lake(SLUICE, 1);
        due("fault(-1)", x.fault(-1), INVALID);
        due("fault(2)", x.fault(2), INVALID);
        for (int wrong : FAR_OUT) {
            due("fault(" + wrong + ")", x.fault(wrong), INVALID);
        }
        due("the empty text", x.fault(0), NOTHING);
        String[] wrong = {"p", "p5", "p;", "p5,", "p5,1;", "p1000;", "p0005;", "p5 ;", " p5;", "P5;", "p-5;", "p+5;",
            ";", ",", "5;", "q5;", "o", "o0", "o0;", "o0,", "o0,;", "o,1;", "o0,1", "o0,1,", "o0,1000;", "o0000,1;",
            "o0.1;", "w0,1", "w0;", "w,;", "i", "i3", "i1234;", "x", "x0", "x;", "x0,1;", "p:;", "p/;", "p5:", "pp5;",
            "O0,1;", "W0,1;", "I1;", "X0;", "o0, 1;", "o9,", "i999", "p~;"};
        for (String text : wrong) {
            fault(lake(SLUICE, 1), text, 0, 1);
            fault(lake(SLUICE, 1), "p5;i30;" + text, 7, 1);
        }
        fault(x, "p5; i3;", 3, 1);
        fault(x, "p5;;", 3, 1);
        fault(x, "p5;i301;q", 3, 2);
        noFault(x, "p5;i300;");
        noFault(x, "p005;i000;o000,010;w002,020;x00;");
        String full = "p1;".repeat(20);
        noFault(x, full);
        fault(x, "p1;".repeat(19) + "p1", 57, 1);
        due("count(4)", x.count(4), 0);
    }

    private static CraneGates sluiceAndBeam() {
        CraneGates x = lake(SLUICE, 1);
        x.gate(BEAM, 1);
        return x;
    }

    private static void faultOfRange() {
        String[] wrong = {"p0;", "p241;", "p999;", "i301;", "o2,1;", "o0,11;", "o1,11;", "o999,0;", "x2;", "x999;",
            "w3,1;", "w0,0;", "w0,21;", "o2,11;", "p000;"};
        for (String text : wrong) {
            fault(sluiceAndBeam(), text, 0, 2);
            fault(sluiceAndBeam(), "p240;" + text, 5, 2);
        }
        String[] right = {"p1;", "p240;", "i0;", "i300;", "o0,0;", "o1,10;", "w0,1;", "w1,20;", "w2,20;", "w2,1;o2,8;"};
        for (String text : right) {
            noFault(sluiceAndBeam(), text);
        }
        CraneGates x = sluiceAndBeam();
        fault(x, "o2,5;w0,5;", 0, 2);
        noFault(x, "w0,5;o2,5;");
        noFault(x, "w0,5;o2,5;x2;");
    }

    private static void faultOfState() {
        CraneGates x = sluiceAndBeam();
        fault(x, "o1,9;", 0, 3);
        fault(x, "x0;", 0, 3);
        fault(x, "o0,5;x0;x0;", 8, 3);
        fault(x, "o0,5;p1;x0;", 8, 3);
        noFault(x, "o0,5;x0;p1;");
        fault(x, "w0,1;w0,1;w0,1;w0,1;w0,1;w0,1;w0,1;", 30, 3);
        noFault(x, "w0,1;w0,1;w0,1;w0,1;w0,1;w0,1;");
        fault(x, "w2,1;o2,1;", 5, 3);
        due("there is no gate more", x.count(0), 2);
        x.order(0, 1);
        noFault(x, "x0;");
        x.cancel(0);
        due("the state is looked at anew", x.fault(1), 3);
    }

    // ---- promise 23
    private static void play() {
        CraneGates x = new CraneGates();
        due("play() of nothing", x.play(), 2000);
        due("it is a change", x.count(11), 1);
        write(x, "w0,10;i7;o0,2;p2;");
        // 2000 + 14 - 10 * 1 * 3 / 10 - 10 * 2 * 3 / 10
        due("play()", x.play(), 2005);
        due("one change", x.count(11), 2);
        due("the text stays", x.count(12), 17);
        due("count(4)", x.count(4), 2);
        due("gateOf(0, 2)", x.gateOf(0, 2), 2);
        due("count(5)", x.count(5), 14);
        due("undo()", x.undo(), 1);
        due("count(0)", x.count(0), 0);
        due("count(2)", x.count(2), 0);
        due("play() again", x.play(), 2005);
        // gate 1 is added, the order for gate 0 is done at once: twice 2 * 10 * 3 / 10 = 6 go out
        due("and again", x.play(), 2005 + 14 - 12);
        due("count(0)", x.count(0), 2);
        write(x, "i9;p1;x1;");
        due("play() with a fault", x.play(), IMPOSSIBLE);
        due("nothing is done", x.count(2), 7);
        due("count(4)", x.count(4), 4);
        due("count(11)", x.count(11), 3);
        write(x, "i9;");
        due("play() without minutes", x.play(), 2007);
        due("count(2)", x.count(2), 9);
    }
}
