/** Each sentence of "The crane", "Marks", "Floods" and "A minute" (the tasks) that names an edge, with a test of its own. */
final class EdgesOfCraneTest {
    private static final int INVALID = -1000001;
    private static final int IMPOSSIBLE = -1000002;
    private static final int NOTHING = -1000004;
    private static final int SLUICE = Make.SLUICE;
    private static final int BEAM = Make.BEAM;

    private static final Check check = new Check("EdgesOfCraneTest");

    private EdgesOfCraneTest() { }

    public static void main(String[] args) {
        crane();
        orders();
        rules();
        marks();
        floodLevels();
        floodTasks();
        minute();
        check.end();
    }

    private static void crane() {
        craneAtFirst();
        oneGateInAMinute();
        raisesBy1();
        lowersBy1();
        beamBy2();
        doneAsToldAndNotAhead();
        doneInTheMinuteInWhichItIsTaken();
    }

    private static void orders() {
        eightOrdersWait();
        newOrderInPlaceOfTheOneThatWaits();
        nextTaskAtTheBeginningOfAMinute();
        noOrderNoTask();
    }

    private static void rules() {
        rule0TheFirst();
        rule1TheNearest();
        rule1OfSeveralTheFirst();
        rule2TheGreatestChange();
        rule2OfSeveralTheFirst();
    }

    private static void marks() {
        markOfATaskThatIsLeft();
        noMarkOfATaskThatIsDone();
        markToldToClose();
        orderTakesTheMarkAway();
        orderThatIsRefusedLeavesTheMark();
        orderThatWaitedLeavesTheMark();
        cancelLeavesTheMark();
        markAheadOfOrdersAndGoneThen();
        noMarkTakenInAFlood();
    }

    private static void floodLevels() {
        floodBeginsAtItsLevel();
        floodBeginsAtTheBeginningOfAMinute();
        floodEndsBelowItsLevel();
        floodEndsAtTheBeginningOfAMinute();
        floodCountedWhenItBegins();
    }

    private static void floodTasks() {
        floodOpensTheNearest();
        floodOfSeveralTheLowestNumber();
        floodOpensWhatIsNotFullyOpen();
        floodWithAllOpen();
        floodWithoutGates();
        floodKeepsItsTask();
        floodTakesNoOrder();
        floodEndLeavesTheTaskWithoutAMark();
        floodEndWithoutATask();
    }

    private static void minute() {
        floodBeginsOrEndsNeverBoth();
        allOrdersDoneAtOnceInAMinute();
        doneAtOnceUntilOneIsNot();
        markAndAllOrdersDoneAtOnceInAMinute();
        openingOfThatMinuteCounts();
    }

    private static void due(String call, long got, long want) {
        check.due(call, got, want);
    }

    /** A lake of sluices; the crane is at rest at a gate, which is open by 1 then; all others are closed. */
    private static CraneGates craneAt(int gates, int gate) {
        return Make.opened(Make.sluices(gates), gate, 1);
    }

    /** Gives orders, gate and opening by turns. */
    private static CraneGates ordered(CraneGates x, int... orders) {
        for (int i = 0; i < orders.length; i += 2) {
            x.order(orders[i], orders[i + 1]);
        }
        return x;
    }

    /** The gate whose order is taken by a rule. */
    private static int taken(int rule, CraneGates x, int... orders) {
        ordered(x, orders);
        x.set(2, rule);
        x.pass(1);
        return x.craneOf(1);
    }

    // ---- "The crane is at a gate (0 at first), and has a task or none."
    private static void craneAtFirst() {
        CraneGates x = new CraneGates();
        due("at 0, though there is no gate", x.craneOf(0), 0);
        due("no task", x.craneOf(1), NOTHING);
        due("no task", x.craneOf(2), NOTHING);
        x.pass(240);
        due("it stays", x.craneOf(0), 0);
        due("it did nothing", x.craneOf(3), 0);
        CraneGates y = Make.sluices(8);
        y.pass(1);
        due("at 0", y.craneOf(0), 0);
    }

    // ---- "if it is not at the gate, it goes to the next one along the rail towards it"
    private static void oneGateInAMinute() {
        CraneGates x = Make.sluices(8);
        x.order(7, 1);
        for (int minute = 1; minute <= 7; minute++) {
            x.pass(1);
            due("on its way to 7", x.craneOf(0), minute);
            due("it does one thing in a minute", x.gateOf(7, 2), 0);
            due("craneOf(3)", x.craneOf(3), minute);
        }
        x.pass(1);
        due("it is there", x.craneOf(0), 7);
        due("it raises", x.gateOf(7, 2), 1);
        x.order(0, 1);
        for (int minute = 1; minute <= 7; minute++) {
            x.pass(1);
            due("on its way to 0", x.craneOf(0), 7 - minute);
            due("gateOf(0, 2)", x.gateOf(0, 2), 0);
        }
        x.pass(1);
        due("it is there", x.craneOf(0), 0);
        due("it raises", x.gateOf(0, 2), 1);
        due("craneOf(3)", x.craneOf(3), 16);
        for (int gate = 1; gate < 7; gate++) {
            due("none on its way is moved", x.gateOf(gate, 7), 0);
        }
    }

    // ---- "otherwise it raises the gate by 1, or lowers it by 1, towards what is told (a beam by 2, but not beyond it)"
    private static void raisesBy1() {
        CraneGates x = Make.sluices(1);
        x.order(0, 10);
        for (int minute = 1; minute <= 10; minute++) {
            x.pass(1);
            due("raised", x.gateOf(0, 2), minute);
            due("moved", x.gateOf(0, 7), minute);
        }
        x.pass(5);
        due("not beyond it", x.gateOf(0, 2), 10);
        due("moved no more", x.gateOf(0, 7), 10);
        due("it did nothing more", x.craneOf(3), 10);
    }

    private static void lowersBy1() {
        CraneGates x = Make.opened(Make.lake(Make.FLAP, 1), 0, 10);
        x.order(0, 0);
        for (int minute = 1; minute <= 10; minute++) {
            x.pass(1);
            due("lowered", x.gateOf(0, 2), 10 - minute);
            due("moved", x.gateOf(0, 7), 10 + minute);
        }
        x.pass(5);
        due("not beyond it", x.gateOf(0, 2), 0);
        due("moved no more", x.gateOf(0, 7), 20);
    }

    private static void beamBy2() {
        CraneGates x = Make.lake(BEAM, 1);
        int[] orders = {2, 10, 8, 0, 4};
        int opening = 0;
        int moved = 0;
        for (int told : orders) {
            x.order(0, told);
            while (opening != told) {
                opening += opening < told ? 2 : -2;
                moved++;
                x.pass(1);
                due("a beam told " + told, x.gateOf(0, 2), opening);
                due("moved", x.gateOf(0, 7), moved);
            }
            due("done", x.craneOf(1), NOTHING);
            x.pass(2);
            due("not beyond " + told, x.gateOf(0, 2), told);
        }
    }

    // ---- "When the opening is as told, the task is done."
    private static void doneAsToldAndNotAhead() {
        CraneGates x = Make.sluices(2);
        x.order(1, 2);
        int[] gates = {1, 1, NOTHING, NOTHING};
        int[] told = {2, 2, NOTHING, NOTHING};
        int[] done = {0, 0, 1, 1};
        for (int minute = 0; minute < 4; minute++) {
            x.pass(1);
            due("the task behind minute " + minute, x.craneOf(1), gates[minute]);
            due("what is told", x.craneOf(2), told[minute]);
            due("done", x.craneOf(4), done[minute]);
        }
        due("left", x.craneOf(5), 0);
    }

    // ---- "(This can be in the minute in which it is taken, wherever the crane is, without anything being done.)"
    private static void doneInTheMinuteInWhichItIsTaken() {
        CraneGates x = Make.sluices(4);
        x.order(3, 0);
        due("it waits until it is taken", x.craneOf(4), 0);
        x.pass(1);
        due("done at once", x.craneOf(4), 1);
        due("wherever the crane is", x.craneOf(0), 0);
        due("nothing being done", x.craneOf(3), 0);
        due("not moved", x.gateOf(3, 7), 0);
        due("no task", x.craneOf(1), NOTHING);
        x.order(3, 1);
        x.pass(1);
        due("not done by an opening that is 1 off", x.craneOf(1), 3);
        due("the crane goes", x.craneOf(0), 1);
        due("craneOf(4)", x.craneOf(4), 1);
    }

    // ---- "There are at most 8 orders that wait, each a task."
    private static void eightOrdersWait() {
        CraneGates x = Make.sluices(8);
        for (int gate = 0; gate < 8; gate++) {
            due("order " + gate, x.order(gate, 9 - gate), gate + 1);
        }
        for (int gate = 0; gate < 8; gate++) {
            due("orderAt(" + gate + ")", x.orderAt(gate), gate);
            due("what is told", x.gateOf(gate, 5), 9 - gate);
        }
        due("orderAt(8)", x.orderAt(8), NOTHING);
        due("a new one for a gate whose order waits", x.order(0, 5), 8);
        due("and for the last one", x.order(7, 6), 8);
        x.pass(1);
        due("one is a task", x.count(8), 7);
        due("8 wait besides the task", x.order(0, 8), 8);
        due("the task", x.craneOf(2), 5);
        due("orderAt(7)", x.orderAt(7), 0);
        due("orderAt(0)", x.orderAt(0), 1);
    }

    // ---- "There is at most one order for each gate: a new one for the same gate comes in place of the one that waits,
    // at its place in the row."
    private static void newOrderInPlaceOfTheOneThatWaits() {
        for (int again = 0; again < 3; again++) {
            CraneGates x = ordered(Make.sluices(3), 2, 5, 0, 6, 1, 7);
            int[] gates = {2, 0, 1};
            due("as many wait", x.order(gates[again], 1), 3);
            for (int i = 0; i < 3; i++) {
                due("at its place, orderAt(" + i + ")", x.orderAt(i), gates[i]);
                due("gateOf(" + gates[i] + ", 5)", x.gateOf(gates[i], 5), i == again ? 1 : 5 + i);
            }
        }
        CraneGates y = ordered(Make.sluices(2), 0, 5, 1, 6);
        y.cancel(0);
        due("none waits for it any more", y.order(0, 5), 2);
        due("so it comes last", y.orderAt(1), 0);
    }

    // ---- "If the crane has no task, it takes the next one at the beginning of a minute"
    private static void nextTaskAtTheBeginningOfAMinute() {
        CraneGates x = ordered(Make.sluices(2), 0, 1, 1, 1);
        due("not before a minute", x.craneOf(1), NOTHING);
        x.pass(1);
        due("the first one is done", x.craneOf(4), 1);
        due("the next one waits for the next minute", x.craneOf(1), NOTHING);
        due("it waits", x.count(8), 1);
        x.pass(1);
        due("it is taken", x.craneOf(1), 1);
        due("none waits", x.count(8), 0);
        x.order(0, 5);
        x.pass(1);
        due("while it has a task, it takes none", x.count(8), 1);
        due("its task is done", x.craneOf(4), 2);
    }

    private static void noOrderNoTask() {
        CraneGates x = Make.sluices(1);
        x.pass(1);
        due("no task", x.craneOf(1), NOTHING);
        due("nothing done", x.craneOf(3), 0);
        x.order(0, 1);
        x.cancel(0);
        x.pass(1);
        due("what was cancelled is no task", x.craneOf(1), NOTHING);
        due("gateOf(0, 2)", x.gateOf(0, 2), 0);
    }

    // ---- "rule 0: the one that came first"
    private static void rule0TheFirst() {
        due("the first, though others are nearer and greater", taken(0, craneAt(8, 3), 7, 1, 3, 10, 2, 10), 7);
        due("the first, though it was given anew", taken(0, craneAt(8, 3), 7, 1, 2, 9, 7, 2), 7);
    }

    // ---- "rule 1: the one whose gate is nearest to the crane, of several the one that came first"
    private static void rule1TheNearest() {
        due("2 rather than 3", taken(1, craneAt(8, 3), 6, 5, 1, 5), 1);
        due("1 rather than 2", taken(1, craneAt(8, 3), 1, 5, 4, 5), 4);
        due("0 rather than 1", taken(1, craneAt(8, 3), 2, 5, 3, 5, 4, 5), 3);
        due("to the farthest gate", taken(1, craneAt(8, 3), 7, 5), 7);
    }

    private static void rule1OfSeveralTheFirst() {
        due("of 2 and 4", taken(1, craneAt(8, 3), 2, 5, 4, 5), 2);
        due("of 4 and 2", taken(1, craneAt(8, 3), 4, 5, 2, 5), 4);
        due("of 0 and 6", taken(1, craneAt(8, 3), 0, 1, 6, 9), 0);
        due("of 6 and 0", taken(1, craneAt(8, 3), 6, 1, 0, 9), 6);
    }

    // ---- "rule 2: the one by which the opening changes most, of several the one that came first"
    private static void rule2TheGreatestChange() {
        due("6 rather than 5", taken(2, craneAt(8, 3), 4, 5, 7, 6, 2, 5), 7);
        due("10 rather than 9", taken(2, craneAt(8, 3), 3, 10, 0, 10), 0);
        due("lowering by 2 rather than none", taken(2, Make.opened(Make.sluices(4), 3, 2), 1, 0, 3, 0), 3);
        CraneGates x = Make.opened(Make.sluices(3), 0, 10);
        due("lowering by 10 rather than raising by 9", taken(2, x, 1, 9, 0, 0), 0);
        CraneGates y = Make.opened(Make.sluices(3), 0, 9);
        due("raising by 10 rather than lowering by 9", taken(2, y, 0, 0, 1, 10), 1);
        CraneGates z = Make.opened(Make.sluices(3), 0, 9);
        due("what is told does not count, but the change", taken(2, z, 0, 10, 1, 2), 1);
    }

    private static void rule2OfSeveralTheFirst() {
        due("of 4 and 2", taken(2, craneAt(8, 3), 4, 5, 2, 5), 4);
        due("of 2 and 4", taken(2, craneAt(8, 3), 2, 5, 4, 5), 2);
        CraneGates x = Make.opened(Make.sluices(3), 0, 5);
        due("of raising and lowering by 5", taken(2, x, 1, 5, 0, 0), 1);
        CraneGates y = Make.opened(Make.sluices(3), 0, 5);
        due("of lowering and raising by 5", taken(2, y, 0, 0, 1, 5), 0);
    }

    /** A lake of sluices in which a flood begins while the crane is at a task of gate 1, told 4, opened to 1. */
    private static CraneGates marked(int gates) {
        CraneGates x = Make.sluices(gates);
        x.order(1, 4);
        x.pass(2);
        x.fill(8000);
        x.pass(1);
        return x;
    }

    // ---- "If the crane leaves a task that is not done, it marks the gate with what is told for it."
    private static void markOfATaskThatIsLeft() {
        CraneGates x = marked(3);
        due("the mark", x.markAt(0), 1);
        due("what is told", x.gateOf(1, 6), 4);
        due("marks", x.craneOf(6), 1);
        due("no second mark", x.markAt(1), NOTHING);
        due("no mark of another gate", x.gateOf(0, 6), NOTHING);
        due("no mark of another gate", x.gateOf(2, 6), NOTHING);
        due("left", x.craneOf(5), 1);
        due("not done", x.craneOf(4), 0);
    }

    private static void noMarkOfATaskThatIsDone() {
        CraneGates x = Make.sluices(2);
        x.order(0, 3);
        x.pass(3);
        x.fill(8000);
        x.pass(1);
        due("done in the minute ahead of the flood", x.craneOf(4), 1);
        due("no mark", x.craneOf(6), 0);
        due("markAt(0)", x.markAt(0), NOTHING);
        due("gateOf(0, 6)", x.gateOf(0, 6), NOTHING);
        due("none left", x.craneOf(5), 0);
        CraneGates y = Make.sluices(2);
        y.order(0, 3);
        y.pass(2);
        y.fill(8000);
        y.pass(1);
        due("one thing short of done", y.gateOf(0, 6), 3);
        due("left", y.craneOf(5), 1);
    }

    private static void markToldToClose() {
        CraneGates x = Make.opened(Make.sluices(1), 0, 10);
        due("no mark", x.gateOf(0, 6), NOTHING);
        x.order(0, 0);
        x.pass(1);
        x.fill(8000);
        x.pass(1);
        due("marked with 0", x.gateOf(0, 6), 0);
        due("opened by the flood", x.gateOf(0, 2), 10);
    }

    // ---- "If an order for a gate with a mark is given, the mark is gone."
    private static void orderTakesTheMarkAway() {
        CraneGates x = marked(3);
        x.order(0, 4);
        x.order(2, 4);
        due("orders for other gates", x.markAt(0), 1);
        x.order(1, 4);
        due("an order for that gate, told the same", x.markAt(0), NOTHING);
        due("marks", x.craneOf(6), 0);
        due("gateOf(1, 6)", x.gateOf(1, 6), NOTHING);
        due("the order waits behind the others", x.orderAt(2), 1);
        CraneGates y = Make.write(marked(3), "o1,0;");
        y.play();
        due("an order by the text", y.craneOf(6), 0);
    }

    private static void orderThatIsRefusedLeavesTheMark() {
        CraneGates x = Make.lake(BEAM, 1, 1);
        x.order(1, 4);
        x.pass(1);
        x.fill(8000);
        x.pass(1);
        due("an odd opening", x.order(1, 3), IMPOSSIBLE);
        due("an opening out of range", x.order(1, 12), INVALID);
        due("the mark is there", x.gateOf(1, 6), 4);
        due("an even opening", x.order(1, 2), 1);
        due("the mark is gone", x.gateOf(1, 6), NOTHING);
    }

    private static void orderThatWaitedLeavesTheMark() {
        CraneGates x = Make.sluices(2);
        x.order(1, 4);
        x.pass(2);
        x.order(1, 2);
        x.fill(8000);
        x.pass(1);
        due("the order was given before the mark", x.gateOf(1, 5), 2);
        due("so the mark is there", x.gateOf(1, 6), 4);
        x.fill(0);
        x.pass(1);
        due("the mark is the task", x.craneOf(2), 4);
        due("the order waits", x.gateOf(1, 5), 2);
    }

    private static void cancelLeavesTheMark() {
        CraneGates x = marked(2);
        due("a mark is no order", x.cancel(1), IMPOSSIBLE);
        due("the mark is there", x.gateOf(1, 6), 4);
        due("nor does an order wait", x.gateOf(1, 5), NOTHING);
        CraneGates y = Make.sluices(2);
        y.order(1, 4);
        y.pass(2);
        y.order(1, 2);
        y.fill(8000);
        y.pass(1);
        due("cancel of the order that waited for that gate", y.cancel(1), 2);
        due("the mark is there", y.gateOf(1, 6), 4);
    }

    // ---- "the latest mark, if there is one and there is no flood, which is gone then"
    private static void markAheadOfOrdersAndGoneThen() {
        CraneGates x = marked(3);
        x.order(0, 9);
        x.order(2, 9);
        x.fill(5999);
        for (int rule = 0; rule < 3; rule++) {
            x.set(2, rule);
            due("orders wait, by rule " + rule, x.would(1, 3), 2);
            due("the mark is gone, by rule " + rule, x.would(1, 2), 0);
        }
        x.pass(1);
        due("the task", x.craneOf(1), 1);
        due("as it was told", x.craneOf(2), 4);
        due("marks", x.craneOf(6), 0);
        due("markAt(0)", x.markAt(0), NOTHING);
        due("gateOf(1, 6)", x.gateOf(1, 6), NOTHING);
    }

    private static void noMarkTakenInAFlood() {
        CraneGates x = marked(2);
        x.order(0, 9);
        x.set(1, 1);
        x.fill(9999);
        x.pass(30);
        due("all is open, there is no task", x.craneOf(1), NOTHING);
        due("there is a flood", x.count(9), 1);
        due("the mark stays", x.markAt(0), 1);
        due("the order waits", x.orderAt(0), 0);
    }

    /** Whether there is a flood behind a minute with levels of floods, of which begins with some water. */
    private static int flood(int begins, int ends, int water, boolean before) {
        CraneGates x = new CraneGates();
        if (before) {
            x.set(0, 1);
            x.pass(1);
        }
        x.set(0, begins);
        x.set(1, ends);
        x.fill(water);
        x.pass(1);
        return x.count(9);
    }

    // ---- "A flood begins when the lake has setting 0 or more at the beginning of a minute"
    private static void floodBeginsAtItsLevel() {
        int[] levels = {1, 2, 5999, 6000, 8000, 9998, 9999};
        for (int level : levels) {
            due("a bucket less than " + level, flood(level, 1, level - 1, false), 0);
            due("as many as " + level, flood(level, 1, level, false), 1);
        }
        due("more than 1", flood(1, 1, 9999, false), 1);
        CraneGates x = new CraneGates();
        x.fill(7999);
        x.pass(1);
        due("7999 at first", x.count(9), 0);
        x.fill(8000);
        x.pass(1);
        due("8000 at first", x.count(9), 1);
    }

    private static void floodBeginsAtTheBeginningOfAMinute() {
        CraneGates x = new CraneGates();
        x.fill(8000);
        due("no flood without a minute", x.count(9), 0);
        x.fill(7999);
        x.inflow(1);
        due("8000 at the end of a minute", x.pass(1), 8000);
        due("no flood yet", x.count(9), 0);
        x.pass(1);
        due("a flood", x.count(9), 1);
        CraneGates y = new CraneGates();
        y.set(0, 2000);
        due("no flood without a minute", y.count(9), 0);
        y.set(0, 2001);
        y.pass(1);
        due("the level of the minute counts", y.count(9), 0);
    }

    // ---- "it ends when it has less than setting 1 at the beginning of a minute"
    private static void floodEndsBelowItsLevel() {
        int[] levels = {1, 2, 6000, 8000, 9998, 9999};
        for (int level : levels) {
            due("as many as " + level, flood(9999, level, level, true), 1);
            due("a bucket less than " + level, flood(9999, level, level - 1, true), 0);
        }
        due("less than setting 0 alone", flood(9999, 1, 9998, true), 1);
        CraneGates x = new CraneGates();
        x.fill(8000);
        x.pass(1);
        x.fill(6000);
        x.pass(1);
        due("6000 at first", x.count(9), 1);
        x.fill(5999);
        x.pass(1);
        due("5999 at first", x.count(9), 0);
    }

    private static void floodEndsAtTheBeginningOfAMinute() {
        CraneGates x = Make.lake(SLUICE, 1);
        x.fill(0);
        Make.opened(x, 0, 10);
        x.fill(8000);
        x.pass(1);
        x.fill(6000);
        due("5993 at the end of a minute", x.pass(1), 5993);
        due("the flood lasts", x.count(9), 1);
        x.fill(0);
        due("without a minute, too", x.count(9), 1);
        x.pass(1);
        due("it ends", x.count(9), 0);
    }

    // ---- "A flood begins, if there was none"
    private static void floodCountedWhenItBegins() {
        CraneGates x = new CraneGates();
        x.fill(9000);
        x.pass(1);
        due("one", x.count(10), 1);
        x.pass(50);
        due("it is the same one", x.count(10), 1);
        x.fill(5999);
        x.pass(1);
        due("its end is no new one", x.count(10), 1);
        x.fill(8000);
        x.pass(1);
        due("a second one", x.count(10), 2);
    }

    // ---- "While it lasts, if the crane has no task, it takes as its task to open fully (10) the gate nearest to it
    // that is not fully open, of several the one with the lowest number; if there is none, it has no task."
    private static void floodOpensTheNearest() {
        CraneGates x = Make.sluices(8);
        // gate 7 is the nearest one for a crane at 7, and 0 the farthest
        Make.opened(x, 7, 3);
        x.fill(8000);
        x.pass(1);
        due("the one at which it is", x.craneOf(1), 7);
        due("fully", x.craneOf(2), 10);
        x.pass(6);
        due("done", x.gateOf(7, 2), 10);
        due("no task in the minute in which it is done", x.craneOf(1), NOTHING);
        for (int gate = 6; gate >= 0; gate--) {
            x.fill(8000);
            x.pass(1);
            due("the next one", x.craneOf(1), gate);
            x.pass(10);
            due("done", x.craneOf(1), NOTHING);
            due("gateOf(" + gate + ", 2)", x.gateOf(gate, 2), 10);
        }
        due("done", x.craneOf(4), 1 + 8);
        x.pass(1);
        due("there is none", x.craneOf(1), NOTHING);
        due("craneOf(2)", x.craneOf(2), NOTHING);
    }

    private static void floodOfSeveralTheLowestNumber() {
        CraneGates x = Make.opened(Make.sluices(8), 3, 10);
        x.fill(8000);
        x.pass(1);
        due("2 and 4 are as near", x.craneOf(1), 2);
        CraneGates y = Make.opened(Make.opened(Make.sluices(8), 2, 10), 3, 10);
        y.fill(8000);
        y.pass(1);
        due("4 is nearer than 1", y.craneOf(1), 4);
        CraneGates z = Make.opened(Make.opened(Make.opened(Make.sluices(8), 2, 10), 4, 10), 3, 10);
        z.fill(8000);
        z.pass(1);
        due("1 and 5 are as near", z.craneOf(1), 1);
    }

    private static void floodOpensWhatIsNotFullyOpen() {
        for (int kind = 0; kind < 3; kind++) {
            int last = kind == BEAM ? 8 : 9;
            CraneGates x = Make.opened(Make.lake(kind, 1, 1), 0, last);
            x.fill(8000);
            x.pass(1);
            due("one thing short of open, of kind " + kind, x.gateOf(0, 2), 10);
            due("done", x.craneOf(4), 2);
            CraneGates y = Make.opened(Make.lake(kind, 1, 1), 0, 10);
            y.fill(8000);
            y.pass(1);
            due("fully open, of kind " + kind, y.craneOf(1), 1);
        }
    }

    private static void floodWithAllOpen() {
        CraneGates x = Make.opened(Make.opened(Make.sluices(2), 0, 10), 1, 10);
        int did = x.craneOf(3);
        x.fill(9000);
        x.pass(5);
        due("a flood", x.count(9), 1);
        due("no task", x.craneOf(1), NOTHING);
        due("nothing done", x.craneOf(3), did);
        due("none done", x.craneOf(4), 2);
        x.gate(SLUICE, 1);
        x.pass(1);
        due("a new gate is not open", x.craneOf(1), 2);
    }

    private static void floodWithoutGates() {
        CraneGates x = new CraneGates();
        x.fill(9000);
        due("pass(240)", x.pass(240), 9000);
        due("a flood", x.count(9), 1);
        due("no task", x.craneOf(1), NOTHING);
        due("craneOf(0)", x.craneOf(0), 0);
        due("nothing done", x.craneOf(3), 0);
    }

    private static void floodKeepsItsTask() {
        CraneGates x = Make.opened(Make.sluices(3), 0, 10);
        x.fill(8000);
        x.pass(1);
        x.order(0, 0);
        x.pass(9);
        due("it stays until it is done", x.craneOf(1), 1);
        due("gateOf(1, 2)", x.gateOf(1, 2), 9);
        due("none left", x.craneOf(5), 0);
    }

    // ---- "otherwise, if there is no flood, an order that waits, by the rule"
    private static void floodTakesNoOrder() {
        CraneGates x = Make.opened(Make.sluices(1), 0, 10);
        x.order(0, 0);
        x.fill(8000);
        x.pass(100);
        due("in the minute in which it begins and behind it", x.gateOf(0, 2), 10);
        due("it waits", x.count(8), 1);
        x.order(0, 10);
        x.pass(1);
        due("not even what would be done at once", x.count(8), 1);
        x.fill(5999);
        x.pass(1);
        due("in the minute in which the flood ends", x.count(8), 0);
        due("done", x.craneOf(4), 2);
    }

    // ---- "When it ends, a task that it has is left, too, but without a mark."
    private static void floodEndLeavesTheTaskWithoutAMark() {
        CraneGates x = Make.sluices(2);
        x.fill(8000);
        x.pass(3);
        due("the task of the flood", x.craneOf(1), 0);
        x.fill(5999);
        x.pass(1);
        due("no task", x.craneOf(1), NOTHING);
        due("craneOf(2)", x.craneOf(2), NOTHING);
        due("left", x.craneOf(5), 1);
        due("not done", x.craneOf(4), 0);
        due("no mark", x.craneOf(6), 0);
        due("gateOf(0, 6)", x.gateOf(0, 6), NOTHING);
        due("as it was", x.gateOf(0, 2), 3);
        due("nothing done in that minute", x.craneOf(3), 3);
    }

    private static void floodEndWithoutATask() {
        CraneGates x = Make.opened(Make.sluices(1), 0, 10);
        x.fill(8000);
        x.pass(1);
        x.fill(5999);
        x.pass(1);
        due("the flood ended", x.count(9), 0);
        due("none left", x.craneOf(5), 0);
        due("no mark", x.craneOf(6), 0);
    }

    // ---- "1. A flood begins, if there was none, or ends, if there was one."
    private static void floodBeginsOrEndsNeverBoth() {
        CraneGates x = new CraneGates();
        x.set(0, 2000);
        x.set(1, 2001);
        for (int minute = 1; minute <= 6; minute++) {
            x.pass(1);
            due("by turns, minute " + minute, x.count(9), minute % 2);
            due("floods", x.count(10), (minute + 1) / 2);
        }
    }

    // ---- "2. The crane takes a task, if it has none; tasks that are done at once are followed by the next ones, as
    // long as there is one."
    private static void allOrdersDoneAtOnceInAMinute() {
        for (int rule = 0; rule < 3; rule++) {
            CraneGates x = Make.sluices(8);
            x.set(2, rule);
            for (int gate = 7; gate >= 0; gate--) {
                x.order(gate, 0);
            }
            due("minutesToRest() by rule " + rule, x.minutesToRest(), 1);
            x.pass(1);
            due("all 8 done by rule " + rule, x.craneOf(4), 8);
            due("none waits", x.count(8), 0);
            due("no task", x.craneOf(1), NOTHING);
            due("nothing done", x.craneOf(3), 0);
            due("craneOf(0)", x.craneOf(0), 0);
        }
    }

    private static void doneAtOnceUntilOneIsNot() {
        CraneGates x = ordered(Make.sluices(8), 7, 0, 6, 0, 5, 0, 4, 0, 3, 0, 2, 0, 1, 1, 0, 0);
        x.pass(1);
        due("six done", x.craneOf(4), 6);
        due("the seventh is the task", x.craneOf(1), 1);
        due("the crane goes in that minute", x.craneOf(0), 1);
        due("the eighth waits", x.orderAt(0), 0);
        x.pass(1);
        due("the seventh is done", x.craneOf(4), 7);
        due("the eighth waits for the next minute", x.count(8), 1);
        x.pass(1);
        due("the eighth is done", x.craneOf(4), 8);
    }

    private static void markAndAllOrdersDoneAtOnceInAMinute() {
        CraneGates x = Make.sluices(8);
        x.order(0, 5);
        x.pass(1);
        for (int gate = 7; gate > 0; gate--) {
            x.order(gate, 0);
        }
        x.order(0, 5);
        x.fill(8000);
        x.pass(4);
        due("opened by the flood to what the mark tells", x.gateOf(0, 2), 5);
        due("the mark", x.gateOf(0, 6), 5);
        x.fill(0);
        x.pass(1);
        due("the mark and 8 orders done", x.craneOf(4), 9);
        due("left, by the flood's beginning and end", x.craneOf(5), 2);
        due("no task", x.craneOf(1), NOTHING);
        due("no mark", x.craneOf(6), 0);
        due("none waits", x.count(8), 0);
        due("nothing done", x.craneOf(3), 5);
    }

    // ---- "3. The crane does one thing .. 5. By each gate .. goes out what would go out by it"
    private static void openingOfThatMinuteCounts() {
        CraneGates x = Make.lake(SLUICE, 20);
        x.order(0, 1);
        due("20 * 1 * 3 / 10 go out in the minute in which it is raised", x.pass(1), 1994);
        x.order(0, 0);
        due("none in the minute in which it is lowered", x.pass(1), 1994);
    }
}
