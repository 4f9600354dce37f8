import java.util.function.Supplier;

/**
 * Each sentence of promises 1 to 19 and of "Changes and errors" that names an edge, with a test of its own: the last
 * argument that is allowed and the first that is not, and that a call that is refused changes nothing. The calls of
 * texts are in EdgesOfTextsTest.
 */
final class EdgesOfCallsTest {
    private static final int INVALID = -1000001;
    private static final int IMPOSSIBLE = -1000002;
    private static final int LIMIT = -1000003;
    private static final int NOTHING = -1000004;
    private static final int LEAST = Integer.MIN_VALUE;
    private static final int MOST = Integer.MAX_VALUE;

    private static final Check check = new Check("EdgesOfCallsTest");

    private EdgesOfCallsTest() { }

    public static void main(String[] args) {
        changes();
        looks();
        prospects();
        historyAndErrors();
        check.end();
    }

    private static void changes() {
        newObject();
        gateArguments();
        gateLimit();
        orderArguments();
        orderOddForABeam();
        cancelArguments();
        cancelWithoutAnOrder();
        inflowArguments();
        fillArguments();
        setArguments();
        passArguments();
        passLimit();
    }

    private static void looks() {
        gateOfArguments();
        gateOfNotFound();
        gateOfCounts();
        craneOfArguments();
        craneOfNotFound();
        orderAtArguments();
        markAtArguments();
        countArguments();
    }

    private static void prospects() {
        wouldMinutes();
        wouldWhat();
        wouldOfNoMinute();
        minutesUntilArguments();
        minutesUntilNow();
        minutesUntilAtLeastWithin1000();
        minutesUntilAtMostWithin1000();
        minutesToRestNow();
        minutesToRestByTheRule();
        minutesToRestWithin1000();
        bestRuleArguments();
        bestRuleOfSeveralTheLowest();
        bestRuleWithin1000();
        bestRuleOfThoseThatRest();
        leastFloodArguments();
        leastFlood0();
        leastFlood300();
        leastFloodOfTheNextMinutes();
        leastFloodThoughMoreGivesNone();
        prospectsGoBeyond50000();
    }

    private static void historyAndErrors() {
        undoOfNothing();
        atMost4States();
        fifthDropsTheOldest();
        eachChangeIsRecorded();
        whatIsNoChange();
        everythingButTheText();
        everyAccountOfMinutes();
        invalidRatherThanNotPossible();
        invalidRatherThanLimit();
        invalidRatherThanNotFound();
        looksChangeNothing();
        the512thCall();
    }

    private static void due(String call, long got, long want) {
        check.due(call, got, want);
    }

    /** A call is answered so by a new object, and nothing is changed by it. */
    private static void unchanged(Supplier<CraneGates> made, String name, int a, int b, int answer) {
        CraneGates x = made.get();
        CraneGates y = made.get();
        String call = name + "(" + a + ", " + b + ")";
        due(call, Program.call(x, name, a, b), answer);
        Looks.same(check, call, x, y, Math.min(y.count(11), y.count(0) == 8 ? 2 : 4));
    }

    private static void invalid(String name, int a, int b) {
        unchanged(Make::busy, name, a, b, INVALID);
    }

    /** First arguments out of range: just outside and as far out as can be. */
    private static void invalidFirst(String name, int tooLow, int tooHigh, int b) {
        for (int a : new int[] {tooLow, tooHigh, LEAST, MOST}) {
            invalid(name, a, b);
        }
    }

    /** Second arguments out of range: just outside and as far out as can be. */
    private static void invalidSecond(String name, int a, int tooLow, int tooHigh) {
        for (int b : new int[] {tooLow, tooHigh, LEAST, MOST}) {
            invalid(name, a, b);
        }
    }

    // ---- promise 1: "Creates a lake without gates; the crane is at the place of gate 0."
    private static void newObject() {
        CraneGates x = new CraneGates();
        due("no gates", x.count(0), 0);
        due("the crane", x.craneOf(0), 0);
        due("no orders", x.orderAt(0), NOTHING);
        due("no marks", x.markAt(0), NOTHING);
        due("no flood", x.count(9), 0);
        due("no states", x.count(11), 0);
        due("no text", x.count(12), 0);
    }

    // ---- promise 2: "`kind`: 0 to 2", "`width`: 1 to 20", "INVALID_ARGUMENT if an argument is out of range"
    private static void gateArguments() {
        due("gate(0, 1)", new CraneGates().gate(0, 1), 0);
        due("gate(2, 1)", new CraneGates().gate(2, 1), 0);
        due("gate(0, 20)", new CraneGates().gate(0, 20), 0);
        due("gate(2, 20)", new CraneGates().gate(2, 20), 0);
        invalidFirst("gate", -1, 3, 1);
        invalidSecond("gate", 0, 0, 21);
        invalid("gate", 0, -1);
    }

    // ---- "LIMIT_REACHED if there are 8"
    private static void gateLimit() {
        CraneGates x = Make.sluices(7);
        due("the eighth", x.gate(1, 9), 7);
        due("the ninth", x.gate(1, 9), LIMIT);
        due("count(0)", x.count(0), 8);
        x.undo();
        due("the eighth again", x.gate(2, 9), 7);
        unchanged(Make::full, "gate", 0, 1, LIMIT);
        unchanged(Make::full, "gate", 2, 20, LIMIT);
    }

    // ---- promise 3: "`gate`: number of the gate", "`opening`: 0 to 10"
    private static void orderArguments() {
        due("order(0, 0)", Make.sluices(2).order(0, 0), 1);
        due("order(1, 10)", Make.sluices(2).order(1, 10), 1);
        due("order(7, 10)", Make.sluices(8).order(7, 10), 1);
        invalidFirst("order", -1, 4, 2);
        invalidSecond("order", 0, -1, 11);
        invalidSecond("order", 3, -1, 12);
        unchanged(CraneGates::new, "order", 0, 0, INVALID);
        unchanged(Make::full, "order", 8, 0, INVALID);
    }

    // ---- "NOT_POSSIBLE for a beam if opening is not even"
    private static void orderOddForABeam() {
        for (int opening = 0; opening <= 10; opening++) {
            due("a beam, " + opening, Make.lake(Make.BEAM, 1).order(0, opening), opening % 2 == 0 ? 1 : IMPOSSIBLE);
            due("a sluice, " + opening, Make.lake(Make.SLUICE, 1).order(0, opening), 1);
            due("a flap, " + opening, Make.lake(Make.FLAP, 1).order(0, opening), 1);
        }
        unchanged(Make::busy, "order", 3, 1, IMPOSSIBLE);
        unchanged(Make::busy, "order", 3, 9, IMPOSSIBLE);
    }

    // ---- promise 4: "`gate`: number of the gate"
    private static void cancelArguments() {
        due("cancel of the first gate", Make.full().cancel(0), 9);
        due("cancel of the last gate", Make.full().cancel(7), 2);
        invalidFirst("cancel", -1, 4, 0);
        unchanged(CraneGates::new, "cancel", 0, 0, INVALID);
        unchanged(Make::full, "cancel", 8, 0, INVALID);
    }

    // ---- "NOT_POSSIBLE if none waits for it"
    private static void cancelWithoutAnOrder() {
        unchanged(Make::busy, "cancel", 0, 0, IMPOSSIBLE);
        unchanged(Make::busy, "cancel", 3, 0, IMPOSSIBLE);
        CraneGates x = Make.full();
        for (int gate = 0; gate < 8; gate++) {
            due("cancel(" + gate + ")", x.cancel(gate), 9 - gate);
            due("cancel(" + gate + ") again", x.cancel(gate), IMPOSSIBLE);
        }
        due("count(8)", x.count(8), 0);
        CraneGates y = Make.sluices(1);
        y.order(0, 5);
        y.pass(1);
        due("cancel of the task", y.cancel(0), IMPOSSIBLE);
        due("the task stays", y.craneOf(2), 5);
    }

    // ---- promise 5: "`buckets`: 0 to 300"
    private static void inflowArguments() {
        CraneGates x = new CraneGates();
        due("inflow(300)", x.inflow(300), 0);
        due("inflow(0)", x.inflow(0), 300);
        due("inflow(0) again", x.inflow(0), 0);
        invalidFirst("inflow", -1, 301, 0);
    }

    // ---- promise 6: "`buckets`: 0 to 9999"
    private static void fillArguments() {
        CraneGates x = new CraneGates();
        due("fill(9999)", x.fill(9999), 2000);
        due("fill(0)", x.fill(0), 9999);
        due("fill(0) again", x.fill(0), 0);
        invalidFirst("fill", -1, 10000, 0);
    }

    // ---- promise 7: "`what`: 0 to 2", "`value`: a value in its range"
    private static void setArguments() {
        CraneGates x = new CraneGates();
        due("set(0, 9999)", x.set(0, 9999), 8000);
        due("set(0, 1)", x.set(0, 1), 9999);
        due("set(1, 9999)", x.set(1, 9999), 6000);
        due("set(1, 1)", x.set(1, 1), 9999);
        due("set(2, 2)", x.set(2, 2), 0);
        due("set(2, 0)", x.set(2, 0), 2);
        invalidFirst("set", -1, 3, 1);
        invalidSecond("set", 0, 0, 10000);
        invalidSecond("set", 1, 0, 10000);
        invalidSecond("set", 2, -1, 3);
    }

    // ---- promise 8: "`minutes`: 1 to 240"
    private static void passArguments() {
        CraneGates x = new CraneGates();
        x.inflow(1);
        due("pass(1)", x.pass(1), 2001);
        due("pass(240)", x.pass(240), 2241);
        due("count(4)", x.count(4), 241);
        invalidFirst("pass", 0, 241, 0);
        invalid("pass", -1, 0);
    }

    // ---- "LIMIT_REACHED if there would be more than 50000 minutes so far"
    private static void passLimit() {
        unchanged(Make::late, "pass", 81, 0, LIMIT);
        unchanged(Make::late, "pass", 240, 0, LIMIT);
        CraneGates x = Make.late();
        due("49920", x.count(4), 49920);
        x.pass(79);
        due("2 minutes, 1 is left", x.pass(2), LIMIT);
        due("the last minute", x.pass(1), 2000);
        due("50000", x.count(4), 50000);
        due("none is left", x.pass(1), LIMIT);
        due("count(4)", x.count(4), 50000);
        x.undo();
        due("it is left again", x.pass(1), 2000);
    }

    // ---- promise 9: "`gate`: number of the gate", "`what`: 0 .. 7", "INVALID_ARGUMENT if an argument is out of range"
    private static void gateOfArguments() {
        due("gateOf(0, 0)", Make.busy().gateOf(0, 0), Make.FLAP);
        due("gateOf(3, 0)", Make.busy().gateOf(3, 0), Make.BEAM);
        due("gateOf(3, 7)", Make.busy().gateOf(3, 7), 5);
        invalidFirst("gateOf", -1, 4, 0);
        invalidFirst("gateOf", -1, 4, 5);
        invalidSecond("gateOf", 0, -1, 8);
        unchanged(CraneGates::new, "gateOf", 0, 0, INVALID);
        unchanged(Make::full, "gateOf", 8, 0, INVALID);
    }

    // ---- "NOT_FOUND for 5 and 6 if there is none"
    private static void gateOfNotFound() {
        CraneGates x = Make.sluices(2);
        due("no order", x.gateOf(0, 5), NOTHING);
        due("no mark", x.gateOf(0, 6), NOTHING);
        x.order(0, 0);
        due("an order told 0", x.gateOf(0, 5), 0);
        due("none for the other gate", x.gateOf(1, 5), NOTHING);
        x.order(0, 10);
        due("an order told 10", x.gateOf(0, 5), 10);
        x.pass(1);
        due("a task is no order", x.gateOf(0, 5), NOTHING);
        due("nor a mark", x.gateOf(0, 6), NOTHING);
        unchanged(Make::busy, "gateOf", 0, 5, NOTHING);
        unchanged(Make::busy, "gateOf", 0, 6, NOTHING);
        unchanged(Make::busy, "gateOf", 1, 5, 5);
        unchanged(Make::busy, "gateOf", 3, 6, 8);
    }

    // ---- "4: what went out by it so far", "7: how often it was moved so far"
    private static void gateOfCounts() {
        CraneGates x = Make.sluices(1);
        due("nothing went out of a new gate", x.gateOf(0, 4), 0);
        due("it was not moved", x.gateOf(0, 7), 0);
        x.fill(2500);
        Make.opened(x, 0, 10);
        // at a head of 3 go out 0, 0, 0, 1, 1, 1, 2, 2, 2, 3 while it is opened
        due("so far", x.gateOf(0, 4), 12);
        due("moved", x.gateOf(0, 7), 10);
        x.undo();
        due("as it was", x.gateOf(0, 4), 0);
        due("as it was", x.gateOf(0, 7), 0);
        for (int i = 0; i < 3; i++) {
            x.undo();
        }
        due("there is no such gate any more", x.gateOf(0, 4), INVALID);
        x.gate(0, 20);
        due("a new one begins anew", x.gateOf(0, 7), 0);
    }

    // ---- promise 10: "`what`: 0 .. 6"
    private static void craneOfArguments() {
        due("craneOf(0)", Make.full().craneOf(0), 0);
        due("craneOf(6)", Make.full().craneOf(6), 0);
        invalidFirst("craneOf", -1, 7, 0);
    }

    // ---- "NOT_FOUND for 1 and 2 if it has no task"
    private static void craneOfNotFound() {
        unchanged(Make::full, "craneOf", 1, 0, NOTHING);
        unchanged(Make::full, "craneOf", 2, 0, NOTHING);
        CraneGates x = Make.opened(Make.sluices(1), 0, 10);
        x.order(0, 0);
        x.pass(9);
        due("a task of gate 0", x.craneOf(1), 0);
        due("told 0", x.craneOf(2), 0);
        x.pass(1);
        due("no task", x.craneOf(1), NOTHING);
        due("no task", x.craneOf(2), NOTHING);
    }

    // ---- promise 11: "INVALID_ARGUMENT if index is negative; NOT_FOUND if there are not so many"
    private static void orderAtArguments() {
        unchanged(CraneGates::new, "orderAt", 0, 0, NOTHING);
        unchanged(CraneGates::new, "orderAt", -1, 0, INVALID);
        unchanged(Make::busy, "orderAt", 0, 0, 1);
        unchanged(Make::busy, "orderAt", 1, 0, NOTHING);
        unchanged(Make::busy, "orderAt", -1, 0, INVALID);
        unchanged(Make::full, "orderAt", 7, 0, 7);
        unchanged(Make::full, "orderAt", 8, 0, NOTHING);
        unchanged(Make::full, "orderAt", MOST, 0, NOTHING);
        unchanged(Make::full, "orderAt", LEAST, 0, INVALID);
    }

    // ---- promise 12: "INVALID_ARGUMENT if index is negative; NOT_FOUND if there are not so many"
    private static void markAtArguments() {
        unchanged(CraneGates::new, "markAt", 0, 0, NOTHING);
        unchanged(CraneGates::new, "markAt", -1, 0, INVALID);
        unchanged(Make::busy, "markAt", 0, 0, 3);
        unchanged(Make::busy, "markAt", 1, 0, NOTHING);
        unchanged(Make::busy, "markAt", -1, 0, INVALID);
        unchanged(Make::busy, "markAt", 4, 0, NOTHING);
        unchanged(Make::busy, "markAt", MOST, 0, NOTHING);
        unchanged(Make::busy, "markAt", LEAST, 0, INVALID);
    }

    // ---- promise 18: "`what`: 0 .. 12; 20 to 22"
    private static void countArguments() {
        CraneGates x = Make.busy();
        for (int what = 0; what <= 22; what++) {
            boolean told = what <= 12 || what >= 20;
            due("count(" + what + ") is told", x.count(what) == INVALID ? 0 : 1, told ? 1 : 0);
        }
        invalidFirst("count", -1, 13, 0);
        invalidFirst("count", 19, 23, 0);
        due("the states", x.count(11), 4);
        due("the length of the text", x.count(12), 9);
        due("the level of floods", x.count(20), 3000);
        due("the level of their ends", x.count(21), 2000);
    }

    // ---- promise 13: "`minutes`: 0 to 500"
    private static void wouldMinutes() {
        CraneGates x = new CraneGates();
        x.inflow(10);
        due("would(0, 0)", x.would(0, 0), 2000);
        due("would(1, 0)", x.would(1, 0), 2010);
        due("would(500, 0)", x.would(500, 0), 7000);
        due("count(4)", x.count(4), 0);
        invalidFirst("would", -1, 501, 0);
    }

    // ---- "0 .. 4; 10 plus a gate: its opening"
    private static void wouldWhat() {
        int[] now = {Make.busy().count(1), 1, 1, 1, 1};
        for (int what = 0; what < now.length; what++) {
            due("would(0, " + what + ")", Make.busy().would(0, what), now[what]);
        }
        for (int what = 5; what < 10; what++) {
            invalid("would", 0, what);
        }
        invalidSecond("would", 0, -1, 14);
        invalidSecond("would", 500, -1, 14);
        due("the first gate", Make.busy().would(0, 10), Make.busy().gateOf(0, 2));
        due("the last gate", Make.busy().would(0, 13), 10);
        unchanged(CraneGates::new, "would", 0, 10, INVALID);
        unchanged(Make::full, "would", 0, 17, 0);
        unchanged(Make::full, "would", 500, 17, 2);
        unchanged(Make::full, "would", 0, 18, INVALID);
    }

    private static void wouldOfNoMinute() {
        CraneGates x = new CraneGates();
        x.fill(9000);
        due("no flood begins in no minute", x.would(0, 4), 0);
        due("it begins in one", x.would(1, 4), 1);
        CraneGates y = Make.full();
        due("no order is taken in no minute", y.would(0, 3), 8);
        due("one is taken", y.would(1, 3), 7);
    }

    // ---- promise 14: "`buckets`: 0 to 9999", "`most`: 0: at least; 1: at most"
    private static void minutesUntilArguments() {
        CraneGates x = new CraneGates();
        due("minutesUntil(0, 0)", x.minutesUntil(0, 0), 0);
        due("minutesUntil(9999, 1)", x.minutesUntil(9999, 1), 0);
        due("minutesUntil(9999, 0)", x.minutesUntil(9999, 0), NOTHING);
        due("minutesUntil(0, 1)", x.minutesUntil(0, 1), NOTHING);
        invalidFirst("minutesUntil", -1, 10000, 0);
        invalidFirst("minutesUntil", -1, 10000, 1);
        invalidSecond("minutesUntil", 0, -1, 2);
    }

    // ---- "Returns the minutes, 0 if it is so now"
    private static void minutesUntilNow() {
        CraneGates x = new CraneGates();
        x.inflow(10);
        due("at least 2000", x.minutesUntil(2000, 0), 0);
        due("at least 2001", x.minutesUntil(2001, 0), 1);
        due("at least 2010", x.minutesUntil(2010, 0), 1);
        due("at least 2011", x.minutesUntil(2011, 0), 2);
        due("at most 2000", x.minutesUntil(2000, 1), 0);
        due("at most 1999", x.minutesUntil(1999, 1), NOTHING);
        due("at most 2001", x.minutesUntil(2001, 1), 0);
        x.fill(0);
        due("at most 0", x.minutesUntil(0, 1), 0);
        x.fill(9999);
        due("at least 9999", x.minutesUntil(9999, 0), 0);
    }

    // ---- "NOT_FOUND if it takes more than 1000"
    private static void minutesUntilAtLeastWithin1000() {
        CraneGates x = new CraneGates();
        x.inflow(1);
        due("999 minutes", x.minutesUntil(2999, 0), 999);
        due("1000 minutes", x.minutesUntil(3000, 0), 1000);
        due("1001 minutes", x.minutesUntil(3001, 0), NOTHING);
        due("count(4)", x.count(4), 0);
    }

    private static void minutesUntilAtMostWithin1000() {
        // a sluice that lets as much out as the head is: 1 a minute below 1000
        CraneGates x = Make.opened(Make.lake(Make.SLUICE, 1), 0, 10);
        x.fill(999);
        due("999 minutes", x.minutesUntil(0, 1), 999);
        x.fill(1001);
        due("1000 minutes: 2 in the first one", x.minutesUntil(0, 1), 1000);
        x.fill(1003);
        due("1001 minutes: 2 in the first two", x.minutesUntil(0, 1), NOTHING);
        due("but at most 1 in 1000", x.minutesUntil(1, 1), 1000);
    }

    // ---- promise 15: "Returns the minutes, 0 if it is so now"
    private static void minutesToRestNow() {
        due("a new lake", new CraneGates().minutesToRest(), 0);
        CraneGates x = Make.sluices(2);
        x.order(0, 0);
        due("an order waits until it is taken, also if it is done at once then", x.minutesToRest(), 1);
        x.cancel(0);
        due("nothing waits", x.minutesToRest(), 0);
        x.order(0, 1);
        due("done in the minute in which it is taken", x.minutesToRest(), 1);
        x.order(1, 1);
        due("and another one: 1 on the way and 1", x.minutesToRest(), 3);
        x.pass(2);
        due("a task", x.minutesToRest(), 1);
        x.pass(1);
        due("no task", x.minutesToRest(), 0);
        x.fill(8000);
        due("a flood that has not begun", x.minutesToRest(), 0);
        CraneGates y = new CraneGates();
        y.fill(8000);
        y.pass(1);
        y.fill(5999);
        due("a flood that has not ended", y.minutesToRest(), 1);
    }

    private static void minutesToRestByTheRule() {
        CraneGates x = Make.sluices(8);
        x.order(7, 1);
        x.order(1, 2);
        int[] minutes = {7 + 1 + 6 + 2, 1 + 2 + 6 + 1, 1 + 2 + 6 + 1};
        for (int rule = 0; rule < 3; rule++) {
            x.set(2, rule);
            due("by rule " + rule, x.minutesToRest(), minutes[rule]);
        }
        x.order(1, 1);
        due("7 came first, by rule 2", x.minutesToRest(), 7 + 1 + 6 + 1);
        x.set(2, 1);
        due("1 is nearer, by rule 1", x.minutesToRest(), 1 + 1 + 6 + 1);
        due("would(2, 11), by rule 1", x.would(2, 11), 1);
        x.set(2, 0);
        due("would(2, 11), by rule 0", x.would(2, 11), 0);
    }

    /** A flood with an open sluice: below 1000 buckets 1 goes out in a minute, and the flood ends without any. */
    private static CraneGates slowFlood(int buckets) {
        CraneGates x = Make.opened(Make.lake(Make.SLUICE, 1), 0, 10);
        x.set(0, 1);
        x.set(1, 1);
        x.pass(1);
        x.fill(buckets);
        return x;
    }

    // ---- "NOT_FOUND if it takes more than 1000"
    private static void minutesToRestWithin1000() {
        due("998 minutes and the one of its end", slowFlood(998).minutesToRest(), 999);
        due("999 minutes and the one of its end", slowFlood(999).minutesToRest(), 1000);
        due("1000 minutes and the one of its end", slowFlood(1001).minutesToRest(), NOTHING);
    }

    // ---- promise 16: "`what`: 0: the rule; 1: the minutes"
    private static void bestRuleArguments() {
        due("bestRule(0)", new CraneGates().bestRule(0), 0);
        due("bestRule(1)", new CraneGates().bestRule(1), 0);
        invalidFirst("bestRule", -1, 2, 0);
    }

    // ---- "of several the lowest one"
    private static void bestRuleOfSeveralTheLowest() {
        for (int rule = 0; rule < 3; rule++) {
            CraneGates x = Make.sluices(8);
            x.set(2, rule);
            due("at rest by any rule", x.bestRule(0), 0);
            x.order(1, 1);
            due("one order, all rules alike", x.bestRule(0), 0);
            due("2 minutes", x.bestRule(1), 2);
            x.order(7, 2);
            due("as the rules 0 and 1 would, 2 would not", x.bestRule(0), 0);
            due("1 + 1 + 6 + 2", x.bestRule(1), 10);
            x.cancel(1);
            x.order(1, 3);
            due("as the rules 1 and 2 would, 0 would not", x.bestRule(0), 1);
            due("1 + 3 + 6 + 2", x.bestRule(1), 12);
            x.order(1, 1);
            due("as rule 1 alone would", x.bestRule(0), 1);
            due("1 + 1 + 6 + 2", x.bestRule(1), 10);
            due("the rule stays", x.count(22), rule);
        }
        CraneGates y = Make.opened(Make.sluices(8), 3, 1);
        y.order(4, 1);
        y.order(7, 1);
        y.order(0, 9);
        due("as rule 2 alone would", y.bestRule(0), 2);
        due("3 + 9 + 4 + 1 + 3 + 1", y.bestRule(1), 21);
    }

    // ---- "NOT_FOUND if by none of them it rests within 1000 minutes"
    private static void bestRuleWithin1000() {
        due("999 minutes", slowFlood(998).bestRule(1), 999);
        due("1000 minutes", slowFlood(999).bestRule(1), 1000);
        due("1000 minutes", slowFlood(999).bestRule(0), 0);
        due("1001 minutes", slowFlood(1001).bestRule(1), NOTHING);
        due("1001 minutes", slowFlood(1001).bestRule(0), NOTHING);
    }

    private static void bestRuleOfThoseThatRest() {
        // by rule 0 the lake rises to 2800 ahead of the wide gate, and the flood has no end
        CraneGates x = Make.lake(Make.SLUICE, 20, 1, 1, 1, 1, 1, 1, 1);
        x.set(0, 2800);
        x.set(1, 1);
        x.inflow(50);
        x.order(7, 1);
        x.order(0, 10);
        due("by rule 0 never", x.minutesToRest(), NOTHING);
        due("by rule 1", x.bestRule(0), 1);
        due("10 + 7 + 1", x.bestRule(1), 18);
    }

    // ---- promise 17: "`minutes`: 1 to 60"
    private static void leastFloodArguments() {
        CraneGates x = new CraneGates();
        x.fill(7999);
        due("leastFlood(1)", x.leastFlood(1), NOTHING);
        due("leastFlood(60)", x.leastFlood(60), 1);
        invalidFirst("leastFlood", 0, 61, 0);
        invalid("leastFlood", -1, 0);
    }

    // ---- "Returns the inflow, 0 to 300 (0 also if there is a flood now)"
    private static void leastFlood0() {
        CraneGates x = new CraneGates();
        x.fill(8000);
        due("a flood begins in any case", x.leastFlood(1), 0);
        x.fill(7999);
        due("not quite", x.leastFlood(2), 1);
        unchanged(Make::busy, "leastFlood", 1, 0, 0);
        unchanged(Make::busy, "leastFlood", 60, 0, 0);
        CraneGates y = new CraneGates();
        y.fill(8000);
        y.pass(1);
        y.fill(0);
        due("there is a flood, though it ends", y.leastFlood(1), 0);
        y.pass(1);
        due("there is none", y.leastFlood(1), NOTHING);
    }

    // ---- "NOT_FOUND if there is none"
    private static void leastFlood300() {
        CraneGates x = new CraneGates();
        x.set(0, 2300);
        due("300", x.leastFlood(2), 300);
        x.set(0, 2301);
        due("301 are too many", x.leastFlood(2), NOTHING);
        due("151 twice", x.leastFlood(3), 151);
        due("nothing is changed", x.count(2), 0);
    }

    // ---- "at the beginning of one of the next minutes"
    private static void leastFloodOfTheNextMinutes() {
        CraneGates x = new CraneGates();
        x.set(0, 2060);
        int[] least = {NOTHING, 60, 30, 20, 15, 12, 10, 9, 8, 7, 6};
        for (int i = 0; i < least.length; i++) {
            due("leastFlood(" + (i + 1) + ")", x.leastFlood(i + 1), least[i]);
        }
        due("leastFlood(60): 59 minutes of inflow", x.leastFlood(60), 2);
        x.set(0, 2059);
        due("59 times 1", x.leastFlood(60), 1);
        due("58 times 1 are too few", x.leastFlood(59), 2);
    }

    private static void leastFloodThoughMoreGivesNone() {
        // from 7000 on 160 go out, so 20 to 37 a minute give no flood, but 19 do: 6980, 6999, 7018
        CraneGates x = Make.lake(Make.FLAP, 20, 20, 20, 20, 20, 20, 20, 20);
        x.fill(6980);
        x.set(0, 7018);
        due("leastFlood(3)", x.leastFlood(3), 19);
        due("leastFlood(2)", x.leastFlood(2), 38);
        int[] inflows = {18, 0, 19, 1, 20, 0, 37, 0, 38, 1, 300, 1};
        for (int i = 0; i < inflows.length; i += 2) {
            x.inflow(inflows[i]);
            due("a flood by " + inflows[i], x.would(3, 4), inflows[i + 1]);
        }
    }

    /** "LIMIT_REACHED if there would be more than 50000 minutes so far" is said of pass alone. */
    private static void prospectsGoBeyond50000() {
        CraneGates x = Make.late();
        x.pass(80);
        x.inflow(1);
        x.order(0, 10);
        due("would(500, 0)", x.would(500, 10), 10);
        due("minutesToRest()", x.minutesToRest(), 10);
        due("bestRule(1)", x.bestRule(1), 10);
        x.cancel(0);
        due("minutesUntil(3000, 0)", x.minutesUntil(3000, 0), 1000);
        x.set(0, 2010);
        due("leastFlood(11)", x.leastFlood(11), 1);
        due("count(4)", x.count(4), 50000);
    }

    // ---- promise 19: "NOT_POSSIBLE if it is empty", "Returns the number of states that are left in the history"
    private static void undoOfNothing() {
        unchanged(CraneGates::new, "undo", 0, 0, IMPOSSIBLE);
        CraneGates x = new CraneGates();
        x.inflow(5);
        due("the only one", x.undo(), 0);
        due("inflow", x.count(2), 0);
        due("none", x.undo(), IMPOSSIBLE);
        due("inflow", x.count(2), 0);
        x.inflow(6);
        due("one again", x.count(11), 1);
        due("undo()", x.undo(), 0);
    }

    // ---- "A history of at most 4 states is kept"
    private static void atMost4States() {
        CraneGates x = new CraneGates();
        for (int i = 1; i <= 9; i++) {
            x.inflow(i);
            due("states behind " + i + " changes", x.count(11), Math.min(i, 4));
        }
        for (int left = 3; left >= 0; left--) {
            due("undo()", x.undo(), left);
            due("count(11)", x.count(11), left);
            due("count(2)", x.count(2), 5 + left);
        }
        due("no fifth one", x.undo(), IMPOSSIBLE);
        due("count(2)", x.count(2), 5);
    }

    // ---- "if there are 5 states then, the oldest one is dropped"
    private static void fifthDropsTheOldest() {
        CraneGates x = new CraneGates();
        for (int i = 1; i <= 4; i++) {
            x.inflow(i);
        }
        for (int i = 0; i < 4; i++) {
            x.undo();
        }
        due("4 changes leave the first state", x.count(2), 0);
        for (int i = 1; i <= 5; i++) {
            x.inflow(i);
        }
        for (int i = 0; i < 4; i++) {
            x.undo();
        }
        due("5 changes drop it", x.count(2), 1);
        due("the history is empty", x.count(11), 0);
        for (int i = 2; i <= 5; i++) {
            x.inflow(i);
        }
        x.undo();
        x.inflow(6);
        due("a change in place of the one undone drops none", x.count(11), 4);
        for (int i = 0; i < 4; i++) {
            x.undo();
        }
        due("the oldest is there", x.count(2), 1);
    }

    // ---- "The changes are the calls of gate, order, cancel, inflow, fill, set, pass and play that return no error."
    private static void eachChangeIsRecorded() {
        // also those that leave all as it is: the same inflow, water, setting and order again
        String[] names = {"gate", "order", "cancel", "inflow", "inflow", "fill", "fill", "set", "set", "pass", "play", "order"};
        int[] first = {0, 1, 0, 9, 0, 7, 2000, 0, 0, 1, 0, 0};
        int[] second = {1, 2, 0, 0, 0, 0, 0, 1, 8000, 0, 0, 4};
        for (int i = 0; i < names.length; i++) {
            CraneGates x = Make.sluices(2);
            x.order(0, 4);
            int[] before = Looks.state(x);
            due("states", x.count(11), 3);
            int answer = Program.call(x, names[i], first[i], second[i]);
            due(names[i] + " returns no error", answer < 0 ? 0 : 1, 1);
            due(names[i] + " is recorded", x.count(11), 4);
            due("undo() of " + names[i], x.undo(), 3);
            Looks.same(check, "undo() of " + names[i], Looks.state(x), before);
        }
    }

    private static void whatIsNoChange() {
        CraneGates x = Make.sluices(1);
        x.order(0, 3);
        String[] names = {"gateOf", "craneOf", "orderAt", "markAt", "would", "minutesUntil", "minutesToRest", "bestRule",
            "leastFlood", "count", "type", "fault", "clearText"};
        for (String name : names) {
            Program.call(x, name, name.equals("type") ? 'q' : 1, 1);
            due(name + " is no change", x.count(11), 2);
        }
        String[] refused = {"gate", "order", "cancel", "inflow", "fill", "set", "pass"};
        for (String name : refused) {
            due(name, Program.call(x, name, -1, -1), INVALID);
            due(name + " that is refused is no change", x.count(11), 2);
        }
        Make.write(x, "q").play();
        due("play that is refused is no change", x.count(11), 2);
        x.undo();
        due("undo is no change", x.count(11), 1);
    }

    // ---- "each change records everything before it but the text"
    private static void everythingButTheText() {
        CraneGates x = Make.busy();
        int[] before = Looks.state(x);
        x.gate(0, 1);
        x.clearText();
        x.type('p');
        x.pass(240);
        x.type('9');
        x.order(0, 3);
        x.type(';');
        x.play();
        for (int left = 3; left >= 0; left--) {
            due("undo()", x.undo(), left);
            due("the text stays", x.count(12), 3);
        }
        Looks.same(check, "everything before the first of 4 changes", Looks.state(x), before);
        due("the text is as it was typed", x.fault(0), NOTHING);
        x.play();
        due("9 minutes", x.count(4), 24 + 9);
    }

    private static void everyAccountOfMinutes() {
        CraneGates x = Make.sluices(2);
        x.inflow(300);
        x.fill(7900);
        x.order(1, 10);
        int[] before = Looks.state(x);
        int[] counts = {1, 4, 5, 6, 7, 8, 9, 10};
        int[] ofCrane = {0, 3, 4, 5, 6};
        // the crane goes to 1; a flood begins, the task is left and marked; gate 1 is opened fully; the lake runs over
        x.pass(11);
        int[] behind = Looks.state(x);
        for (int what : counts) {
            due("count(" + what + ") is another", x.count(what) == before[what] ? 0 : 1, 1);
        }
        for (int what : ofCrane) {
            due("craneOf(" + what + ") is there", x.craneOf(what) > 0 ? 1 : 0, 1);
        }
        due("undo()", x.undo(), 3);
        Looks.same(check, "undo() of minutes", Looks.state(x), before);
        due("pass(11) again", x.pass(11), behind[1]);
        Looks.same(check, "the same minutes again", Looks.state(x), behind);
    }

    // ---- "If several errors apply to a call, INVALID_ARGUMENT is returned rather than NOT_POSSIBLE"
    private static void invalidRatherThanNotPossible() {
        invalid("order", 3, 11);
        invalid("order", 3, -1);
        invalid("order", 4, 1);
        unchanged(CraneGates::new, "cancel", 0, 0, INVALID);
    }

    // ---- "NOT_POSSIBLE rather than LIMIT_REACHED": and so INVALID_ARGUMENT rather than LIMIT_REACHED
    private static void invalidRatherThanLimit() {
        unchanged(Make::full, "gate", 3, 1, INVALID);
        unchanged(Make::full, "gate", -1, 1, INVALID);
        unchanged(Make::full, "gate", 0, 0, INVALID);
        unchanged(Make::full, "gate", 0, 21, INVALID);
        unchanged(Make::late, "pass", 241, 0, INVALID);
        unchanged(Make::late, "pass", MOST, 0, INVALID);
        unchanged(EdgesOfCallsTest::atTheEnd, "pass", 0, 0, INVALID);
        unchanged(EdgesOfCallsTest::atTheEnd, "pass", 1, 0, LIMIT);
        Supplier<CraneGates> written = () -> Make.write(Make.sluices(1), "p1;".repeat(20));
        unchanged(written, "type", 31, 0, INVALID);
        unchanged(written, "type", 127, 0, INVALID);
        unchanged(written, "type", 65, 0, LIMIT);
    }

    private static CraneGates atTheEnd() {
        CraneGates x = Make.late();
        x.pass(80);
        return x;
    }

    // ---- "LIMIT_REACHED rather than NOT_FOUND": and so INVALID_ARGUMENT rather than NOT_FOUND
    private static void invalidRatherThanNotFound() {
        unchanged(CraneGates::new, "gateOf", 0, 5, INVALID);
        unchanged(CraneGates::new, "gateOf", 0, 6, INVALID);
        unchanged(CraneGates::new, "minutesUntil", 10000, 0, INVALID);
        unchanged(CraneGates::new, "minutesUntil", 9999, 2, INVALID);
        unchanged(CraneGates::new, "leastFlood", 0, 0, INVALID);
        unchanged(CraneGates::new, "fault", 2, 0, INVALID);
        unchanged(CraneGates::new, "fault", -1, 0, INVALID);
        due("bestRule without a rest", slowFlood(1001).bestRule(2), INVALID);
        due("bestRule without a rest", slowFlood(1001).bestRule(-1), INVALID);
    }

    // ---- the calls that tell something are no changes, whatever they tell
    private static void looksChangeNothing() {
        Supplier<CraneGates> x = Make::busy;
        unchanged(x, "would", 500, 0, x.get().would(500, 0));
        unchanged(x, "would", 500, 13, 10);
        unchanged(x, "minutesUntil", 0, 1, x.get().minutesUntil(0, 1));
        unchanged(x, "minutesUntil", 9999, 0, x.get().minutesUntil(9999, 0));
        unchanged(x, "minutesToRest", 0, 0, x.get().minutesToRest());
        unchanged(x, "bestRule", 0, 0, x.get().bestRule(0));
        unchanged(x, "bestRule", 1, 0, x.get().bestRule(1));
        unchanged(Make::full, "bestRule", 1, 0, Make.full().bestRule(1));
        unchanged(Make::full, "leastFlood", 60, 0, Make.full().leastFlood(60));
        unchanged(x, "fault", 0, 0, NOTHING);
        unchanged(x, "count", 11, 0, 4);
        unchanged(x, "craneOf", 6, 0, 1);
    }

    // ---- "An object is used for at most 512 calls after it has been made"
    private static void the512thCall() {
        CraneGates x = new CraneGates();
        for (int call = 1; call <= 510; call++) {
            due("call " + call, x.inflow(call % 2 == 0 ? 0 : 300), call % 2 == 0 ? 300 : 0);
        }
        due("call 511", x.pass(240), 2000);
        due("call 512", x.undo(), 3);
    }
}
