import java.lang.reflect.Field;
import java.lang.reflect.Method;

/**
 * "There are at most 4 marks, the latest first; if there are 5, the oldest one is gone. A gate has one mark at most: a
 * new one comes as the latest one in place of the old one." By calls alone there is never more than one mark, since the
 * latest is taken in the minute in which a flood ends. So the marks are put into the row from within, and looked at by
 * calls.
 */
final class MarksRowTest {
    private static final int NOTHING = -1000004;

    private static final Check check = new Check("MarksRowTest");

    private MarksRowTest() { }

    public static void main(String[] args) throws ReflectiveOperationException {
        byCallsNeverMoreThanOne();
        if (hasTheRow()) {
            fourMarks();
            fifthMark();
            oneMarkForAGate();
            orderTakesOneAway();
            latestTakenFirst();
            statesKeepThem();
        } else {
            System.out.println("MarksRowTest: the marks are held in another way, so there is no more to look at");
        }
        check.end();
    }

    private static void due(String call, long got, long want) {
        check.due(call, got, want);
    }

    private static boolean hasTheRow() {
        for (Class<?> inside : CraneGates.class.getDeclaredClasses()) {
            if (inside.getSimpleName().equals("Tasks")) {
                return true;
            }
        }
        return false;
    }

    /** Marks a gate as a flood's beginning would. */
    private static void mark(CraneGates x, int gate, int told) throws ReflectiveOperationException {
        Object marks = inside(inside(x, "dam"), "marks");
        Method put = marks.getClass().getDeclaredMethod("putFirst", int.class, int.class);
        put.setAccessible(true);
        put.invoke(marks, gate, told);
    }

    private static Object inside(Object object, String name) throws ReflectiveOperationException {
        Field field = object.getClass().getDeclaredField(name);
        field.setAccessible(true);
        return field.get(object);
    }

    /** A lake with 8 sluices, of which some are marked one after another, each with its number and 1. */
    private static CraneGates marked(int... gates) throws ReflectiveOperationException {
        CraneGates x = Make.sluices(8);
        for (int gate : gates) {
            mark(x, gate, gate + 1);
        }
        return x;
    }

    private static void marks(String what, CraneGates x, int... gates) {
        due(what + ", marks", x.craneOf(6), gates.length);
        due(what + ", would(0, 2)", x.would(0, 2), gates.length);
        for (int i = 0; i < gates.length; i++) {
            due(what + ", markAt(" + i + ")", x.markAt(i), gates[i]);
            due(what + ", what is told", x.gateOf(gates[i], 6), gates[i] + 1);
        }
        due(what + ", no mark more", x.markAt(gates.length), NOTHING);
    }

    private static void byCallsNeverMoreThanOne() {
        CraneGates x = Make.sluices(8);
        for (int gate = 0; gate < 8; gate++) {
            x.order(gate, 9);
        }
        for (int flood = 0; flood < 8; flood++) {
            x.fill(0);
            x.pass(2 + flood);
            due("none without a flood", x.craneOf(6), 0);
            x.fill(8000);
            x.pass(1);
            due("one in a flood", x.craneOf(6), 1);
        }
    }

    // ---- "There are at most 4 marks, the latest first"
    private static void fourMarks() throws ReflectiveOperationException {
        marks("one", marked(5), 5);
        marks("two", marked(5, 7), 7, 5);
        marks("four", marked(5, 7, 0, 3), 3, 0, 7, 5);
    }

    // ---- "if there are 5, the oldest one is gone"
    private static void fifthMark() throws ReflectiveOperationException {
        CraneGates x = marked(5, 7, 0, 3, 6);
        marks("five", x, 6, 3, 0, 7);
        due("the oldest one is gone", x.gateOf(5, 6), NOTHING);
        marks("eight", marked(0, 1, 2, 3, 4, 5, 6, 7), 7, 6, 5, 4);
    }

    // ---- "A gate has one mark at most: a new one comes as the latest one in place of the old one."
    private static void oneMarkForAGate() throws ReflectiveOperationException {
        marks("the oldest anew", marked(5, 7, 0, 3, 5), 5, 3, 0, 7);
        marks("one in between anew", marked(5, 7, 0, 3, 7), 7, 3, 0, 5);
        marks("the latest anew", marked(5, 7, 0, 3, 3), 3, 0, 7, 5);
        CraneGates x = marked(5, 7);
        mark(x, 5, 10);
        due("as it is told anew", x.gateOf(5, 6), 10);
        due("marks", x.craneOf(6), 2);
    }

    // ---- "If an order for a gate with a mark is given, the mark is gone."
    private static void orderTakesOneAway() throws ReflectiveOperationException {
        int[] gates = {3, 0, 7, 5};
        for (int i = 0; i < 4; i++) {
            CraneGates x = marked(5, 7, 0, 3);
            x.order(gates[i], 2);
            int[] left = new int[3];
            for (int j = 0; j < 3; j++) {
                left[j] = gates[j < i ? j : j + 1];
            }
            marks("an order for " + gates[i], x, left);
            due("gateOf(" + gates[i] + ", 6)", x.gateOf(gates[i], 6), NOTHING);
        }
    }

    // ---- "the latest mark, if there is one and there is no flood, which is gone then"
    private static void latestTakenFirst() throws ReflectiveOperationException {
        CraneGates x = marked(5, 7, 0, 3);
        x.fill(0);
        x.order(1, 1);
        int[] gates = {3, 0, 7, 5};
        for (int i = 0; i < 4; i++) {
            due("the order waits, too", x.count(8), 1);
            x.pass(1);
            due("marks left", x.craneOf(6), 3 - i);
            int way = Math.abs(gates[i] - (i == 0 ? 0 : gates[i - 1]));
            x.pass(way + gates[i]);
            due("opened as the mark told", x.gateOf(gates[i], 2), gates[i] + 1);
            due("done", x.craneOf(4), i + 1);
        }
        x.pass(1);
        due("then the order", x.craneOf(1), 1);
    }

    private static void statesKeepThem() throws ReflectiveOperationException {
        CraneGates x = marked(5, 7, 0, 3);
        x.order(3, 2);
        x.pass(100);
        due("undo()", x.undo(), 3);
        marks("undo() of minutes", x, 0, 7, 5);
        due("undo()", x.undo(), 2);
        marks("undo() of an order", x, 3, 0, 7, 5);
        due("would(1, 2)", x.would(1, 2), 3);
        due("would(100, 2)", x.would(100, 2), 0);
        marks("would changes nothing", x, 3, 0, 7, 5);
    }
}
