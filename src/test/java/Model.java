import java.util.ArrayDeque;
import java.util.ArrayList;
import java.util.Comparator;
import java.util.Deque;
import java.util.List;
import java.util.regex.Matcher;
import java.util.regex.Pattern;

/**
 * The document told a second time, slowly and with the whole Java library, so that the program can be held against
 * it. Nothing here is taken from the program.
 */
final class Model {
    static final int INVALID = -1000001;
    static final int IMPOSSIBLE = -1000002;
    static final int LIMIT = -1000003;
    static final int NOTHING = -1000004;

    record Task(int gate, int opening) { }

    static final class Gate {
        final int kind;
        final int width;
        int opening;
        int out;
        int moved;

        Gate(int kind, int width) {
            this.kind = kind;
            this.width = width;
        }

        int flow(int head) {
            int plain = width * opening * head / 10;
            switch (kind) {
                case 1: return plain + (head >= 8 ? width : 0);
                case 2: return opening == 10 ? plain : 0;
                default: return plain;
            }
        }
    }

    static final class State {
        List<Gate> gates = new ArrayList<>();
        List<Task> orders = new ArrayList<>();
        List<Task> marks = new ArrayList<>();
        int[] settings = {8000, 6000, 0};
        int lake = 2000;
        int inflow;
        int crane;
        Task task;
        boolean flood;
        int minutes;
        int cameIn;
        int wentOut;
        int ranOver;
        int floods;
        int worked;
        int done;
        int left;

        State copy() {
            State s = new State();
            for (Gate g : gates) {
                Gate h = new Gate(g.kind, g.width);
                h.opening = g.opening;
                h.out = g.out;
                h.moved = g.moved;
                s.gates.add(h);
            }
            s.orders.addAll(orders);
            s.marks.addAll(marks);
            s.settings = settings.clone();
            s.lake = lake;
            s.inflow = inflow;
            s.crane = crane;
            s.task = task;
            s.flood = flood;
            s.minutes = minutes;
            s.cameIn = cameIn;
            s.wentOut = wentOut;
            s.ranOver = ranOver;
            s.floods = floods;
            s.worked = worked;
            s.done = done;
            s.left = left;
            return s;
        }

        int head() {
            return Math.floorDiv(lake, 1000) + 1;
        }

        void minute() {
            if (!flood) {
                if (lake >= settings[0]) {
                    flood = true;
                    floods++;
                    if (task != null) {
                        int gate = task.gate();
                        marks.removeIf(m -> m.gate() == gate);
                        marks.add(0, task);
                        while (marks.size() > 4) {
                            marks.remove(marks.size() - 1);
                        }
                        left++;
                        task = null;
                    }
                }
            } else if (lake < settings[1]) {
                flood = false;
                if (task != null) {
                    left++;
                    task = null;
                }
            }
            while (task == null) {
                task = nextTask();
                if (task == null) {
                    break;
                }
                doneIfSo();
            }
            if (task != null) {
                worked++;
                if (crane != task.gate()) {
                    crane += Integer.signum(task.gate() - crane);
                } else {
                    Gate g = gates.get(crane);
                    for (int i = 0; i < (g.kind == 2 ? 2 : 1) && g.opening != task.opening(); i++) {
                        g.opening += Integer.signum(task.opening() - g.opening);
                    }
                    g.moved++;
                }
                doneIfSo();
            }
            int head = head();
            lake += inflow;
            cameIn += inflow;
            for (Gate g : gates) {
                int out = Math.min(lake, g.flow(head));
                lake -= out;
                g.out += out;
                wentOut += out;
            }
            int over = Math.max(0, lake - 9999);
            lake -= over;
            ranOver += over;
            minutes++;
        }

        private void doneIfSo() {
            if (task != null && gates.get(task.gate()).opening == task.opening()) {
                done++;
                task = null;
            }
        }

        private Task nextTask() {
            if (flood) {
                Task best = null;
                for (int g = 0; g < gates.size(); g++) {
                    if (gates.get(g).opening < 10
                            && (best == null || Math.abs(g - crane) < Math.abs(best.gate() - crane))) {
                        best = new Task(g, 10);
                    }
                }
                return best;
            }
            if (!marks.isEmpty()) {
                return marks.remove(0);
            }
            Comparator<Task> by = Comparator.comparingInt(t -> 0);
            if (settings[2] == 1) {
                by = Comparator.comparingInt(t -> Math.abs(t.gate() - crane));
            } else if (settings[2] == 2) {
                by = Comparator.comparingInt(t -> -Math.abs(t.opening() - gates.get(t.gate()).opening));
            }
            Task next = orders.stream().min(by).orElse(null);
            orders.remove(next);
            return next;
        }

        boolean rests() {
            return task == null && orders.isEmpty() && marks.isEmpty() && !flood;
        }
    }

    private State now = new State();
    private final Deque<State> history = new ArrayDeque<>();
    private final StringBuilder text = new StringBuilder();

    private boolean isGate(State s, int gate) {
        return gate >= 0 && gate < s.gates.size();
    }

    private static boolean within(int value, int least, int most) {
        return value >= least && value <= most;
    }

    private int change(java.util.function.ToIntFunction<State> what) {
        State before = now.copy();
        int answer = what.applyAsInt(now);
        if (answer <= INVALID + 3 && answer >= LIMIT - 1) {
            now = before;
            return answer;
        }
        history.addLast(before);
        if (history.size() > 4) {
            history.removeFirst();
        }
        return answer;
    }

    private int addGate(State s, int kind, int width) {
        if (!within(kind, 0, 2) || !within(width, 1, 20)) {
            return INVALID;
        }
        if (s.gates.size() == 8) {
            return LIMIT;
        }
        s.gates.add(new Gate(kind, width));
        return s.gates.size() - 1;
    }

    private int giveOrder(State s, int gate, int opening) {
        if (!isGate(s, gate) || !within(opening, 0, 10)) {
            return INVALID;
        }
        if (s.gates.get(gate).kind == 2 && opening % 2 == 1) {
            return IMPOSSIBLE;
        }
        s.marks.removeIf(m -> m.gate() == gate);
        Task order = new Task(gate, opening);
        for (int i = 0; i < s.orders.size(); i++) {
            if (s.orders.get(i).gate() == gate) {
                s.orders.set(i, order);
                return s.orders.size();
            }
        }
        s.orders.add(order);
        return s.orders.size();
    }

    private int cancelOrder(State s, int gate) {
        if (!isGate(s, gate)) {
            return INVALID;
        }
        for (Task t : s.orders) {
            if (t.gate() == gate) {
                s.orders.remove(t);
                return t.opening();
            }
        }
        return IMPOSSIBLE;
    }

    private int setInflow(State s, int buckets) {
        if (!within(buckets, 0, 300)) {
            return INVALID;
        }
        int was = s.inflow;
        s.inflow = buckets;
        return was;
    }

    private int setLake(State s, int buckets) {
        if (!within(buckets, 0, 9999)) {
            return INVALID;
        }
        int was = s.lake;
        s.lake = buckets;
        return was;
    }

    private int setSetting(State s, int what, int value) {
        if (!within(what, 0, 2) || !(what == 2 ? within(value, 0, 2) : within(value, 1, 9999))) {
            return INVALID;
        }
        int was = s.settings[what];
        s.settings[what] = value;
        return was;
    }

    private int letPass(State s, int minutes) {
        if (!within(minutes, 1, 240)) {
            return INVALID;
        }
        if (s.minutes + minutes > 50000) {
            return LIMIT;
        }
        for (int i = 0; i < minutes; i++) {
            s.minute();
        }
        return s.lake;
    }

    private int gateOf(int gate, int what) {
        if (!isGate(now, gate) || !within(what, 0, 7)) {
            return INVALID;
        }
        Gate g = now.gates.get(gate);
        if (what == 5 || what == 6) {
            for (Task t : what == 5 ? now.orders : now.marks) {
                if (t.gate() == gate) {
                    return t.opening();
                }
            }
            return NOTHING;
        }
        return new int[] {g.kind, g.width, g.opening, g.flow(now.head()), g.out, 0, 0, g.moved}[what];
    }

    private int craneOf(int what) {
        if (!within(what, 0, 6)) {
            return INVALID;
        }
        int gate = now.task == null ? NOTHING : now.task.gate();
        int opening = now.task == null ? NOTHING : now.task.opening();
        return new int[] {now.crane, gate, opening, now.worked, now.done, now.left, now.marks.size()}[what];
    }

    private static int at(List<Task> row, int index) {
        return index < 0 ? INVALID : index >= row.size() ? NOTHING : row.get(index).gate();
    }

    private int would(int minutes, int what) {
        if (!within(minutes, 0, 500) || !within(what, 0, 4) && (what < 10 || !isGate(now, what - 10))) {
            return INVALID;
        }
        State s = now.copy();
        for (int i = 0; i < minutes; i++) {
            s.minute();
        }
        if (what >= 10) {
            return s.gates.get(what - 10).opening;
        }
        return new int[] {s.lake, s.crane, s.marks.size(), s.orders.size(), s.flood ? 1 : 0}[what];
    }

    private static int until(State s, java.util.function.Predicate<State> reached) {
        State t = s.copy();
        for (int minutes = 0; minutes <= 1000; minutes++) {
            if (reached.test(t)) {
                return minutes;
            }
            t.minute();
        }
        return NOTHING;
    }

    private int minutesUntil(int buckets, int most) {
        if (!within(buckets, 0, 9999) || !within(most, 0, 1)) {
            return INVALID;
        }
        return until(now, s -> most == 1 ? s.lake <= buckets : s.lake >= buckets);
    }

    private int bestRule(int what) {
        if (!within(what, 0, 1)) {
            return INVALID;
        }
        int[] took = new int[3];
        for (int rule = 0; rule < 3; rule++) {
            State s = now.copy();
            s.settings[2] = rule;
            took[rule] = until(s, State::rests);
        }
        for (int minutes = 0; minutes <= 1000; minutes++) {
            for (int rule = 0; rule < 3; rule++) {
                if (took[rule] == minutes) {
                    return what == 0 ? rule : minutes;
                }
            }
        }
        return NOTHING;
    }

    private int leastFlood(int minutes) {
        if (!within(minutes, 1, 60)) {
            return INVALID;
        }
        if (now.flood) {
            return 0;
        }
        for (int inflow = 0; inflow <= 300; inflow++) {
            State s = now.copy();
            s.inflow = inflow;
            for (int i = 0; i < minutes; i++) {
                s.minute();
            }
            if (s.floods > now.floods) {
                return inflow;
            }
        }
        return NOTHING;
    }

    private int count(int what) {
        if (within(what, 20, 22)) {
            return now.settings[what - 20];
        }
        if (!within(what, 0, 12)) {
            return INVALID;
        }
        return new int[] {now.gates.size(), now.lake, now.inflow, now.head(), now.minutes, now.cameIn, now.wentOut,
            now.ranOver, now.orders.size(), now.flood ? 1 : 0, now.floods, history.size(), text.length()}[what];
    }

    private int undo() {
        if (history.isEmpty()) {
            return IMPOSSIBLE;
        }
        now = history.removeLast();
        return history.size();
    }

    private static final Pattern ORDER = Pattern.compile(
            "(?:([ipx])([0-9]{1,3})|([ow])([0-9]{1,3}),([0-9]{1,3}));");

    /** Does the text on a state; answers the fault as position * 10 + reason, or -1. */
    private int run(State s) {
        int position = 0;
        while (position < text.length()) {
            Matcher m = ORDER.matcher(text).region(position, text.length());
            if (!m.lookingAt()) {
                return position * 10 + 1;
            }
            boolean one = m.group(1) != null;
            char letter = (one ? m.group(1) : m.group(3)).charAt(0);
            int a = Integer.parseInt(one ? m.group(2) : m.group(4));
            int b = one ? 0 : Integer.parseInt(m.group(5));
            int answer = 0;
            switch (letter) {
                case 'o': answer = giveOrder(s, a, b); break;
                case 'i': answer = setInflow(s, a); break;
                case 'p': answer = letPass(s, a); break;
                case 'x': answer = cancelOrder(s, a); break;
                case 'w': answer = addGate(s, a, b); break;
                default: throw new IllegalStateException();
            }
            if (answer == INVALID) {
                return position * 10 + 2;
            }
            if (answer < 0) {
                return position * 10 + 3;
            }
            position = m.end();
        }
        return -1;
    }

    private int type(int character) {
        if (!within(character, 32, 126)) {
            return INVALID;
        }
        if (text.length() == 60) {
            return LIMIT;
        }
        return text.append((char) character).length();
    }

    private int clearText() {
        int length = text.length();
        text.setLength(0);
        return length;
    }

    private int fault(int what) {
        if (!within(what, 0, 1)) {
            return INVALID;
        }
        int fault = run(now.copy());
        return fault < 0 ? NOTHING : what == 0 ? fault / 10 : fault % 10;
    }

    private int play() {
        if (run(now.copy()) >= 0) {
            return IMPOSSIBLE;
        }
        return change(s -> {
            run(s);
            return s.lake;
        });
    }

    /** Answers the call of a name, with the arguments that it takes. */
    int call(String name, int a, int b) {
        switch (name) {
            case "gate": return change(s -> addGate(s, a, b));
            case "order": return change(s -> giveOrder(s, a, b));
            case "cancel": return change(s -> cancelOrder(s, a));
            case "inflow": return change(s -> setInflow(s, a));
            case "fill": return change(s -> setLake(s, a));
            case "set": return change(s -> setSetting(s, a, b));
            case "pass": return change(s -> letPass(s, a));
            case "gateOf": return gateOf(a, b);
            case "craneOf": return craneOf(a);
            case "orderAt": return at(now.orders, a);
            case "markAt": return at(now.marks, a);
            case "would": return would(a, b);
            case "minutesUntil": return minutesUntil(a, b);
            case "minutesToRest": return until(now, State::rests);
            case "bestRule": return bestRule(a);
            case "leastFlood": return leastFlood(a);
            case "count": return count(a);
            case "undo": return undo();
            case "type": return type(a);
            case "clearText": return clearText();
            case "fault": return fault(a);
            case "play": return play();
            default: throw new IllegalArgumentException(name);
        }
    }
}
