/** Each sentence of "Lake and gates", "A minute" (the water) and "Settings" that names an edge, with a test of its own. */
final class EdgesOfLakeTest {
    private static final int INVALID = -1000001;
    private static final int SLUICE = Make.SLUICE;
    private static final int FLAP = Make.FLAP;
    private static final int BEAM = Make.BEAM;

    private static final Check check = new Check("EdgesOfLakeTest");

    private EdgesOfLakeTest() { }

    public static void main(String[] args) {
        lakeAtFirst();
        lakeNeverBelow0();
        lakeNeverAbove9999();
        inflowAtFirst();
        inflowFrom0To300();
        head();
        gatesFrom0To7();
        widthsFrom1To20();
        openingsFrom0To10();
        sluiceRoundsDown();
        sluiceClosedAndFullyOpen();
        flapFromAHeadOf8();
        flapWhileItIsClosed();
        noOtherKindHasItsWidthBesides();
        beamOnlyAt10();
        headOfTheBeginning();
        headForAllGates();
        notMoreThanTheLakeHas();
        byTheirNumbers();
        runsOverAbove9999();
        runsOverBehindTheGates();
        fillIsNoWaterThatComesIn();
        settingsAtFirst();
        settingsInTheirRanges();
        check.end();
    }

    private static void due(String call, long got, long want) {
        check.due(call, got, want);
    }

    // ---- "The lake has 0 to 9999 buckets (2000 at first)."
    private static void lakeAtFirst() {
        CraneGates x = new CraneGates();
        due("count(1) at first", x.count(1), 2000);
        due("pass(1) at first", x.pass(1), 2000);
    }

    private static void lakeNeverBelow0() {
        CraneGates x = Make.lake(SLUICE, 20, 20);
        x.fill(0);
        Make.opened(x, 0, 10);
        Make.opened(x, 1, 10);
        due("nothing goes out of nothing", x.count(1), 0);
        due("count(6)", x.count(6), 0);
        x.fill(1);
        due("the last bucket", x.pass(1), 0);
        due("count(6)", x.count(6), 1);
        due("and no more", x.pass(240), 0);
        due("count(6)", x.count(6), 1);
        due("would(500, 0)", x.would(500, 0), 0);
    }

    private static void lakeNeverAbove9999() {
        CraneGates x = new CraneGates();
        x.fill(9998);
        x.inflow(1);
        due("the last bucket that it holds", x.pass(1), 9999);
        due("count(7)", x.count(7), 0);
        due("one too much", x.pass(1), 9999);
        due("count(7)", x.count(7), 1);
        x.inflow(300);
        due("300 too much", x.pass(1), 9999);
        due("count(7)", x.count(7), 301);
        due("would(500, 0)", x.would(500, 0), 9999);
    }

    // ---- "In each minute the inflow comes in (0 to 300 buckets, 0 at first)."
    private static void inflowAtFirst() {
        CraneGates x = new CraneGates();
        due("count(2) at first", x.count(2), 0);
        due("nothing comes in", x.pass(240), 2000);
        due("count(5)", x.count(5), 0);
    }

    private static void inflowFrom0To300() {
        CraneGates x = new CraneGates();
        x.inflow(300);
        due("300 come in", x.pass(1), 2300);
        due("300 come in in each minute", x.pass(2), 2900);
        due("count(5)", x.count(5), 900);
        x.inflow(1);
        due("1 comes in", x.pass(1), 2901);
        x.inflow(0);
        due("0 come in", x.pass(1), 2901);
        due("count(5)", x.count(5), 901);
    }

    // ---- "The head is the water of the lake divided by 1000, rounded down, plus 1."
    private static void head() {
        // the sluice of width 10 lets just as much out as the head is
        CraneGates x = Make.opened(Make.lake(SLUICE, 10), 0, 1);
        int[] heads = {0, 1, 1, 1, 999, 1, 1000, 2, 1999, 2, 2000, 3, 4999, 5, 5000, 6, 8999, 9, 9000, 10, 9999, 10};
        for (int i = 0; i < heads.length; i += 2) {
            x.fill(heads[i]);
            due("count(3) of " + heads[i], x.count(3), heads[i + 1]);
            due("gateOf(0, 3) of " + heads[i], x.gateOf(0, 3), heads[i + 1]);
        }
    }

    // ---- "There are at most 8 gates along the rail, numbered from 0, each with a kind, a width (1 to 20) and an
    // opening (0 to 10, 0 at first)."
    private static void gatesFrom0To7() {
        CraneGates x = new CraneGates();
        due("no gate 0 in a new lake", x.gateOf(0, 0), INVALID);
        for (int gate = 0; gate < 8; gate++) {
            due("the next number", x.gate(gate % 3, 20 - gate), gate);
            due("there is no gate behind the last one", x.gateOf(gate + 1, 0), INVALID);
        }
        due("no gate -1", x.gateOf(-1, 0), INVALID);
        due("the ninth", x.gate(SLUICE, 1), -1000003);
        due("count(0)", x.count(0), 8);
        for (int gate = 0; gate < 8; gate++) {
            due("the kind of " + gate, x.gateOf(gate, 0), gate % 3);
            due("the width of " + gate, x.gateOf(gate, 1), 20 - gate);
        }
    }

    private static void widthsFrom1To20() {
        CraneGates x = Make.lake(SLUICE, 1, 20);
        due("the width 1", x.gateOf(0, 1), 1);
        due("the width 20", x.gateOf(1, 1), 20);
        due("the width 0", x.gate(SLUICE, 0), INVALID);
        due("the width 21", x.gate(SLUICE, 21), INVALID);
        due("count(0)", x.count(0), 2);
    }

    private static void openingsFrom0To10() {
        for (int kind = 0; kind < 3; kind++) {
            CraneGates x = Make.lake(kind, 1);
            due("closed at first", x.gateOf(0, 2), 0);
            x.order(0, 10);
            x.pass(30);
            due("not above 10", x.gateOf(0, 2), 10);
            due("an order for 11", x.order(0, 11), INVALID);
            x.order(0, 0);
            x.pass(30);
            due("not below 0", x.gateOf(0, 2), 0);
            due("an order for -1", x.order(0, -1), INVALID);
        }
    }

    // ---- "kind 0, a sluice: width times opening times head, divided by 10, rounded down"
    private static void sluiceRoundsDown() {
        // width, opening, water, what would go out
        int[][] cases = {{1, 1, 8999, 0}, {1, 1, 9000, 1}, {1, 9, 999, 0}, {1, 10, 999, 1}, {3, 3, 999, 0}, {19, 1, 999, 1},
            {20, 1, 999, 2}, {3, 7, 8000, 18}, {7, 7, 6999, 34}, {9, 9, 8999, 72}};
        for (int[] c : cases) {
            CraneGates x = Make.opened(Make.lake(SLUICE, c[0]), 0, c[1]);
            x.fill(c[2]);
            String what = "width " + c[0] + ", opening " + c[1] + ", water " + c[2];
            due(what, x.gateOf(0, 3), c[3]);
            int before = x.gateOf(0, 4);
            x.set(0, 9999);
            due(what + ", pass(1)", x.pass(1), c[2] - c[3]);
            due(what + ", gateOf(0, 4)", x.gateOf(0, 4) - before, c[3]);
        }
    }

    private static void sluiceClosedAndFullyOpen() {
        CraneGates x = Make.lake(SLUICE, 20);
        x.fill(9999);
        due("closed, at the highest head", x.gateOf(0, 3), 0);
        x.fill(0);
        Make.opened(x, 0, 10);
        due("fully open, at the lowest head", x.gateOf(0, 3), 20);
        x.fill(9999);
        due("fully open, at the highest head", x.gateOf(0, 3), 200);
    }

    // ---- "kind 1, a flap: the same, and if the head is 8 or more, its width besides (also while its opening is 0)"
    private static void flapFromAHeadOf8() {
        CraneGates x = Make.lake(FLAP, 20);
        x.fill(0);
        Make.opened(x, 0, 1);
        // water, what would go out: 20 * head / 10, and 20 from 7000 on
        int[] cases = {0, 2, 5999, 12, 6999, 14, 7000, 16 + 20, 7999, 16 + 20, 8000, 18 + 20, 9999, 20 + 20};
        for (int i = 0; i < cases.length; i += 2) {
            x.fill(cases[i]);
            due("a flap at 1, water " + cases[i], x.gateOf(0, 3), cases[i + 1]);
        }
        x.fill(0);
        Make.opened(x, 0, 10);
        x.fill(6999);
        due("fully open at 6999", x.gateOf(0, 3), 140);
        x.fill(7000);
        due("fully open at 7000", x.gateOf(0, 3), 160 + 20);
        due("and it goes out", x.pass(1), 6820);
    }

    private static void flapWhileItIsClosed() {
        CraneGates x = Make.lake(FLAP, 13);
        x.fill(6999);
        due("closed at 6999", x.gateOf(0, 3), 0);
        due("pass(1)", x.pass(1), 6999);
        x.fill(7000);
        due("closed at 7000", x.gateOf(0, 3), 13);
        due("pass(1)", x.pass(1), 6987);
        due("gateOf(0, 4)", x.gateOf(0, 4), 13);
        due("a head of 7 again", x.pass(1), 6987);
    }

    private static void noOtherKindHasItsWidthBesides() {
        for (int kind = SLUICE; kind <= BEAM; kind += 2) {
            CraneGates x = Make.lake(kind, 13);
            x.fill(9999);
            due("closed, of kind " + kind, x.gateOf(0, 3), 0);
            x.fill(0);
            Make.opened(x, 0, 10);
            x.fill(7000);
            due("open, of kind " + kind, x.gateOf(0, 3), 13 * 8);
        }
    }

    // ---- "kind 2, a beam: the same as for a sluice, but nothing unless its opening is 10"
    private static void beamOnlyAt10() {
        CraneGates x = Make.lake(BEAM, 20);
        x.fill(0);
        int[] openings = {0, 2, 8, 10, 8, 0, 10};
        for (int opening : openings) {
            if (x.gateOf(0, 2) != opening) {
                Make.opened(x, 0, opening);
            }
            x.fill(9999);
            due("a beam at " + opening, x.gateOf(0, 3), opening == 10 ? 200 : 0);
            x.fill(0);
            due("a beam at " + opening + ", no water", x.gateOf(0, 3), opening == 10 ? 20 : 0);
        }
        CraneGates y = Make.lake(BEAM, 1);
        y.fill(500);
        y.order(0, 10);
        due("at 8 nothing goes out", y.pass(4), 500);
        due("at 10 in that same minute", y.pass(1), 499);
    }

    // ---- "4. The inflow comes in. 5. By each gate, by their numbers, goes out what would go out by it (with the head
    // as it was at the beginning of step 4), but not more than the lake has."
    private static void headOfTheBeginning() {
        CraneGates x = Make.lake(SLUICE, 10);
        x.fill(0);
        Make.opened(x, 0, 10);
        x.inflow(1);
        x.fill(999);
        due("a head of 1, though it has 1000 then", x.pass(1), 1000 - 10);
        x.fill(1000);
        due("a head of 2", x.pass(1), 1001 - 20);
        CraneGates flap = Make.lake(FLAP, 20);
        flap.inflow(300);
        flap.fill(6999);
        due("a head of 7, though it has 7299 then", flap.pass(1), 7299);
        due("a head of 8", flap.pass(1), 7579);
    }

    private static void headForAllGates() {
        CraneGates x = Make.lake(SLUICE, 10, 10);
        x.fill(0);
        Make.opened(x, 0, 10);
        Make.opened(x, 1, 10);
        x.fill(1000);
        due("20 by the first one, 20 by the second one, though it has 980 then", x.pass(1), 960);
        due("gateOf(0, 4)", x.gateOf(0, 4), 20);
        due("gateOf(1, 4)", x.gateOf(1, 4), 20);
    }

    private static void notMoreThanTheLakeHas() {
        CraneGates x = Make.lake(SLUICE, 20);
        x.fill(0);
        Make.opened(x, 0, 10);
        // at a head of 1 20 would go out
        int[] inflows = {0, 0, 1, 0, 19, 0, 20, 0, 21, 1};
        int out = 0;
        for (int i = 0; i < inflows.length; i += 2) {
            x.fill(0);
            x.inflow(inflows[i]);
            due("what is left of " + inflows[i], x.pass(1), inflows[i + 1]);
            out += inflows[i] - inflows[i + 1];
            due("gateOf(0, 4)", x.gateOf(0, 4), out);
            due("count(6)", x.count(6), out);
            due("what would go out, however little it has", x.gateOf(0, 3), 20);
        }
    }

    private static void byTheirNumbers() {
        CraneGates x = Make.lake(SLUICE, 5, 20, 10);
        x.fill(0);
        for (int gate = 2; gate >= 0; gate--) {
            Make.opened(x, gate, 10);
        }
        // 5, 20 and 10 would go out, by their numbers, not by when they were opened
        int[][] cases = {{4, 4, 0, 0}, {5, 5, 0, 0}, {6, 5, 1, 0}, {25, 5, 20, 0}, {26, 5, 20, 1}, {36, 5, 20, 10}};
        for (int[] c : cases) {
            int[] before = {x.gateOf(0, 4), x.gateOf(1, 4), x.gateOf(2, 4)};
            x.fill(c[0]);
            due("what is left of " + c[0], x.pass(1), c[0] == 36 ? 1 : 0);
            for (int gate = 0; gate < 3; gate++) {
                due("gate " + gate + " of " + c[0], x.gateOf(gate, 4) - before[gate], c[gate + 1]);
            }
        }
    }

    // ---- "6. What the lake has above 9999 runs over."
    private static void runsOverAbove9999() {
        CraneGates x = new CraneGates();
        x.fill(9999);
        due("nothing comes in", x.pass(1), 9999);
        due("nothing runs over", x.count(7), 0);
        x.fill(9700);
        x.inflow(300);
        due("10000", x.pass(1), 9999);
        due("one runs over", x.count(7), 1);
        x.fill(9699);
        due("9999", x.pass(1), 9999);
        due("nothing more runs over", x.count(7), 1);
        x.fill(9999);
        due("10299", x.pass(1), 9999);
        due("300 more run over", x.count(7), 301);
    }

    private static void runsOverBehindTheGates() {
        CraneGates x = Make.lake(FLAP, 20);
        x.fill(0);
        x.set(0, 9999);
        Make.opened(x, 0, 10);
        x.inflow(220);
        x.fill(9999);
        // 220 go out at a head of 10
        due("as much comes in as goes out", x.pass(1), 9999);
        due("nothing runs over", x.count(7), 0);
        x.inflow(221);
        due("one more comes in", x.pass(1), 9999);
        due("it runs over", x.count(7), 1);
        x.inflow(219);
        due("one less comes in", x.pass(1), 9998);
        due("nothing more runs over", x.count(7), 1);
    }

    // ---- "Fills the lake (which is no water that comes in)."
    private static void fillIsNoWaterThatComesIn() {
        CraneGates x = Make.lake(SLUICE, 1);
        x.fill(9999);
        x.fill(0);
        x.fill(9999);
        due("count(5)", x.count(5), 0);
        due("count(6)", x.count(6), 0);
        due("count(7)", x.count(7), 0);
        due("gateOf(0, 4)", x.gateOf(0, 4), 0);
    }

    // ---- "The settings are (in parentheses: range; first value): 0 the level of floods (1 to 9999; 8000), 1 the level
    // at which they end (1 to 9999; 6000), 2 the rule (0 to 2; 0)."
    private static void settingsAtFirst() {
        CraneGates x = new CraneGates();
        due("count(20)", x.count(20), 8000);
        due("count(21)", x.count(21), 6000);
        due("count(22)", x.count(22), 0);
        due("set(0, 8000)", x.set(0, 8000), 8000);
        due("set(1, 6000)", x.set(1, 6000), 6000);
        due("set(2, 0)", x.set(2, 0), 0);
    }

    private static void settingsInTheirRanges() {
        // setting, least, most
        int[][] ranges = {{0, 1, 9999}, {1, 1, 9999}, {2, 0, 2}};
        for (int[] r : ranges) {
            CraneGates x = new CraneGates();
            x.set(r[0], r[1]);
            due("the least of setting " + r[0], x.count(20 + r[0]), r[1]);
            due("less than the least of setting " + r[0], x.set(r[0], r[1] - 1), INVALID);
            due("it stays", x.count(20 + r[0]), r[1]);
            due("set to the most", x.set(r[0], r[2]), r[1]);
            due("the most of setting " + r[0], x.count(20 + r[0]), r[2]);
            due("more than the most of setting " + r[0], x.set(r[0], r[2] + 1), INVALID);
            due("it stays", x.count(20 + r[0]), r[2]);
            for (int other = 0; other < 3; other++) {
                if (other != r[0]) {
                    due("setting " + other + " is as at first", x.count(20 + other), new int[] {8000, 6000, 0}[other]);
                }
            }
        }
    }
}
