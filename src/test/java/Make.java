/** Makes the lakes that tests begin with. */
final class Make {
    static final int SLUICE = 0;
    static final int FLAP = 1;
    static final int BEAM = 2;

    private Make() { }

    /** A lake with gates of a kind, each of a width. */
    static CraneGates lake(int kind, int... widths) {
        CraneGates x = new CraneGates();
        for (int width : widths) {
            x.gate(kind, width);
        }
        return x;
    }

    /** A lake with as many sluices of width 1. */
    static CraneGates sluices(int gates) {
        CraneGates x = new CraneGates();
        for (int gate = 0; gate < gates; gate++) {
            x.gate(SLUICE, 1);
        }
        return x;
    }

    /** Puts a text in place of the one that there was. */
    static CraneGates write(CraneGates x, String text) {
        x.clearText();
        for (char c : text.toCharArray()) {
            x.type(c);
        }
        return x;
    }

    /** Has a gate brought to an opening, from a crane at rest; the crane is there then. */
    static CraneGates opened(CraneGates x, int gate, int opening) {
        int way = Math.abs(gate - x.craneOf(0));
        int step = x.gateOf(gate, 0) == BEAM ? 2 : 1;
        int work = Math.abs(opening - x.gateOf(gate, 2)) / step;
        x.order(gate, opening);
        x.pass(way + work);
        return x;
    }

    /**
     * A lake with a flood, a task, a mark, an order that waits, a text, four states, and with a count other than 0 of
     * everything. Gates 0 to 2 are flaps, gate 3 is a beam; an order waits for gate 1, the mark is of gate 3.
     */
    static CraneGates busy() {
        CraneGates x = lake(FLAP, 3, 4, 5);
        x.gate(BEAM, 6);
        x.set(0, 3000);
        x.set(1, 2000);
        x.order(3, 8);
        x.order(1, 5);
        x.pass(4);
        x.inflow(33);
        x.fill(9990);
        x.pass(20);
        x.inflow(44);
        return write(x, "i7;x1;p3;");
    }

    /** A lake with 8 gates and 8 orders that wait. */
    static CraneGates full() {
        CraneGates x = sluices(8);
        for (int gate = 0; gate < 8; gate++) {
            x.order(gate, 9 - gate);
        }
        return x;
    }

    /** A lake with a gate, in which so many minutes went by that 80 are left of those that may. */
    static CraneGates late() {
        CraneGates x = sluices(1);
        write(x, "p240;p240;p240;p240;p240;p240;p240;p240;p240;p240;p240;p240;");
        for (int i = 0; i < 17; i++) {
            x.play();
        }
        x.clearText();
        for (int i = 0; i < 4; i++) {
            x.pass(240);
        }
        return x;
    }
}
