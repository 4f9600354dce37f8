import java.util.ArrayList;
import java.util.List;

/** What can be seen of an object by calls that change nothing. An object has 512 calls: some 30 and 8 a gate go here. */
final class Looks {
    private Looks() { }

    /** All that can be seen but the history and the text. */
    static int[] state(CraneGates x) {
        List<Integer> all = new ArrayList<>();
        for (int what = 0; what < 23; what++) {
            if (what < 11 || what > 19) {
                all.add(x.count(what));
            }
        }
        for (int what = 0; what < 7; what++) {
            all.add(x.craneOf(what));
        }
        rows(x, all);
        return all.stream().mapToInt(i -> i).toArray();
    }

    private static void rows(CraneGates x, List<Integer> all) {
        int orders = Math.min(8, x.count(8));
        for (int i = 0; i <= orders; i++) {
            all.add(x.orderAt(i));
        }
        int marks = Math.min(4, x.craneOf(6));
        for (int i = 0; i <= marks; i++) {
            all.add(x.markAt(i));
        }
        int gates = Math.min(8, x.count(0));
        for (int gate = 0; gate < gates; gate++) {
            for (int what = 0; what < 8; what++) {
                all.add(x.gateOf(gate, what));
            }
        }
    }

    static void same(Check check, String what, int[] got, int[] want) {
        check.due(what + ", how much can be seen", got.length, want.length);
        for (int i = 0; i < want.length && i < got.length; i++) {
            check.due(what + ", value " + i, got[i], want[i]);
        }
    }

    /** Holds two objects against each other: their states, histories and texts. It undoes so many changes of both. */
    static void same(Check check, String what, CraneGates x, CraneGates y, int undone) {
        same(check, what, x, y);
        for (int i = 0; i < undone; i++) {
            check.due(what + ", undo()", x.undo(), y.undo());
            same(check, what + ", behind undo()", x, y);
        }
        check.due(what + ", play()", x.play(), y.play());
        same(check, what + ", behind play()", x, y);
    }

    private static void same(Check check, String what, CraneGates x, CraneGates y) {
        check.due(what + ", states", x.count(11), y.count(11));
        check.due(what + ", signs", x.count(12), y.count(12));
        check.due(what + ", fault(0)", x.fault(0), y.fault(0));
        check.due(what + ", fault(1)", x.fault(1), y.fault(1));
        same(check, what, state(x), state(y));
    }
}
