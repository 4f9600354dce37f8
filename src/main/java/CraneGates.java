/** Dam gates moved by one crane: a lake, its gates, orders, marks and floods, minute by minute. */
public final class CraneGates {
    public static final int INVALID_ARGUMENT = -1000001;
    public static final int NOT_POSSIBLE = -1000002;
    public static final int LIMIT_REACHED = -1000003;
    public static final int NOT_FOUND = -1000004;

    private static final int MOST_GATES = 8;
    private static final int MOST_MARKS = 4;
    private static final int MOST_STATES = 4;
    private static final int MOST_CHARACTERS = 60;
    private static final int MOST_DIGITS = 3;
    private static final int MOST_WIDTH = 20;
    private static final int MOST_WATER = 9999;
    private static final int MOST_INFLOW = 300;
    private static final int MOST_MINUTES = 50000;
    private static final int MOST_MINUTES_PASSED = 240;
    private static final int MOST_MINUTES_TOLD = 500;
    private static final int MOST_MINUTES_SOUGHT = 1000;
    private static final int MOST_MINUTES_TO_FLOOD = 60;

    private static final int SLUICE = 0;
    private static final int FLAP = 1;
    private static final int BEAM = 2;
    private static final int CLOSED = 0;
    private static final int FULLY_OPEN = 10;
    private static final int HEAD_OVER_FLAP = 8;

    private static final int FLOOD_BEGINS = 0;
    private static final int FLOOD_ENDS = 1;
    private static final int RULE = 2;
    private static final int SETTINGS = 3;

    private static final int FIRST_RULE = 0;
    private static final int NEAREST_RULE = 1;
    private static final int GREATEST_CHANGE_RULE = 2;

    private static final int NO_GATE = -1;
    private static final int ABSENT = -1;

    private static final int NO_FAULT = 0;
    private static final int FAULT_OF_FORM = 1;
    private static final int FAULT_OF_RANGE = 2;
    private static final int FAULT_OF_STATE = 3;

    private static final char END_OF_TEXT = 0;

    private final Dam dam;
    private final Dam trial;
    private final History history;
    private final Script script;

    public CraneGates() {
        dam = new Dam();
        trial = new Dam();
        history = new History();
        script = new Script();
    }

    // ---- gates, orders

    public int gate(int kind, int width) {
        history.prepare(dam);
        return kept(dam.addGate(kind, width));
    }

    public int order(int gate, int opening) {
        history.prepare(dam);
        return kept(dam.giveOrder(gate, opening));
    }

    public int cancel(int gate) {
        history.prepare(dam);
        return kept(dam.cancelOrder(gate));
    }

    public int inflow(int buckets) {
        history.prepare(dam);
        return kept(dam.changeInflow(buckets));
    }

    public int fill(int buckets) {
        history.prepare(dam);
        return kept(dam.changeWater(buckets));
    }

    public int set(int what, int value) {
        history.prepare(dam);
        return kept(dam.changeSetting(what, value));
    }

    public int pass(int minutes) {
        int refusal = dam.refusalToPass(minutes);
        if (isError(refusal)) {
            return refusal;
        }
        history.prepare(dam);
        dam.letPass(minutes);
        return kept(dam.water());
    }

    // ---- what there is

    public int gateOf(int gate, int what) {
        return dam.ofGate(gate, what);
    }

    public int craneOf(int what) {
        return dam.ofCrane(what);
    }

    public int orderAt(int index) {
        return dam.gateOfOrder(index);
    }

    public int markAt(int index) {
        return dam.gateOfMark(index);
    }

    // ---- what would be

    public int would(int minutes, int what) {
        if (minutes < 0 || minutes > MOST_MINUTES_TOLD) {
            return INVALID_ARGUMENT;
        }
        trial.copyFrom(dam);
        trial.letPass(minutes);
        return trial.outlook(what);
    }

    public int minutesUntil(int buckets, int most) {
        if (buckets < 0 || buckets > MOST_WATER || most < 0 || most > 1) {
            return INVALID_ARGUMENT;
        }
        trial.copyFrom(dam);
        for (int minutes = 0; minutes <= MOST_MINUTES_SOUGHT; minutes++) {
            int water = trial.water();
            if (most == 0 ? water >= buckets : water <= buckets) {
                return minutes;
            }
            trial.letPass(1);
        }
        return NOT_FOUND;
    }

    public int minutesToRest() {
        return minutesToRestBy(dam.rule());
    }

    public int bestRule(int what) {
        if (what < 0 || what > 1) {
            return INVALID_ARGUMENT;
        }
        int best = NOT_FOUND;
        int fewest = NOT_FOUND;
        for (int rule = FIRST_RULE; rule <= GREATEST_CHANGE_RULE; rule++) {
            int minutes = minutesToRestBy(rule);
            if (minutes != NOT_FOUND && (best == NOT_FOUND || minutes < fewest)) {
                best = rule;
                fewest = minutes;
            }
        }
        return what == 0 ? best : fewest;
    }

    public int leastFlood(int minutes) {
        if (minutes < 1 || minutes > MOST_MINUTES_TO_FLOOD) {
            return INVALID_ARGUMENT;
        }
        if (dam.isFlooded()) {
            return 0;
        }
        for (int buckets = 0; buckets <= MOST_INFLOW; buckets++) {
            if (floodBegins(buckets, minutes)) {
                return buckets;
            }
        }
        return NOT_FOUND;
    }

    public int count(int what) {
        if (what == 11) {
            return history.size();
        }
        if (what == 12) {
            return script.length();
        }
        return dam.number(what);
    }

    public int undo() {
        if (history.size() == 0) {
            return NOT_POSSIBLE;
        }
        history.restore(dam);
        return history.size();
    }

    // ---- texts

    public int type(int character) {
        return script.append(character);
    }

    public int clearText() {
        return script.empty();
    }

    public int fault(int what) {
        if (what < 0 || what > 1) {
            return INVALID_ARGUMENT;
        }
        trial.copyFrom(dam);
        script.doOrdersOn(trial);
        if (script.faultReason() == NO_FAULT) {
            return NOT_FOUND;
        }
        return what == 0 ? script.faultPlace() : script.faultReason();
    }

    public int play() {
        trial.copyFrom(dam);
        script.doOrdersOn(trial);
        if (script.faultReason() != NO_FAULT) {
            return NOT_POSSIBLE;
        }
        history.prepare(dam);
        dam.copyFrom(trial);
        return kept(dam.water());
    }

    // ---- helpers

    private static boolean isError(int answer) {
        return answer < 0;
    }

    /** Keeps the prepared state in the history if the answer of a change is no error. */
    private int kept(int answer) {
        if (!isError(answer)) {
            history.keepPrepared();
        }
        return answer;
    }

    private int minutesToRestBy(int rule) {
        trial.copyFrom(dam);
        trial.changeSetting(RULE, rule);
        for (int minutes = 0; minutes <= MOST_MINUTES_SOUGHT; minutes++) {
            if (trial.rests()) {
                return minutes;
            }
            trial.letPass(1);
        }
        return NOT_FOUND;
    }

    private boolean floodBegins(int buckets, int minutes) {
        trial.copyFrom(dam);
        trial.changeInflow(buckets);
        for (int left = minutes - 1; left >= 0; left--) {
            if (trial.floodIsDue()) {
                return true;
            }
            // Spares the minutes in which even a lake that lets nothing out can't rise so high.
            if (trial.water() + buckets * left < trial.floodLevel()) {
                return false;
            }
            trial.letPass(1);
        }
        return false;
    }

    /** The gates along the rail. */
    private static final class Gates {
        private final int[] kinds = new int[MOST_GATES];
        private final int[] widths = new int[MOST_GATES];
        private final int[] openings = new int[MOST_GATES];
        private final int[] waterOut = new int[MOST_GATES];
        private final int[] moves = new int[MOST_GATES];
        private int size;

        void copyFrom(Gates other) {
            size = other.size;
            System.arraycopy(other.kinds, 0, kinds, 0, MOST_GATES);
            System.arraycopy(other.widths, 0, widths, 0, MOST_GATES);
            System.arraycopy(other.openings, 0, openings, 0, MOST_GATES);
            System.arraycopy(other.waterOut, 0, waterOut, 0, MOST_GATES);
            System.arraycopy(other.moves, 0, moves, 0, MOST_GATES);
        }

        int size() {
            return size;
        }

        boolean has(int gate) {
            return gate >= 0 && gate < size && gate < MOST_GATES;
        }

        boolean isFull() {
            return size >= MOST_GATES;
        }

        void append(int kind, int width) {
            if (isFull()) {
                return;
            }
            kinds[size] = kind;
            widths[size] = width;
            openings[size] = CLOSED;
            waterOut[size] = 0;
            moves[size] = 0;
            size++;
        }

        int kind(int gate) {
            return has(gate) ? kinds[gate] : SLUICE;
        }

        int width(int gate) {
            return has(gate) ? widths[gate] : 0;
        }

        int opening(int gate) {
            return gate >= 0 && gate < size && gate < MOST_GATES ? openings[gate] : CLOSED;
        }

        int waterOut(int gate) {
            return has(gate) ? waterOut[gate] : 0;
        }

        int moves(int gate) {
            return has(gate) ? moves[gate] : 0;
        }

        /** What would go out by a gate in a minute, however little the lake has. */
        int flow(int gate, int head) {
            if (!has(gate) || kinds[gate] == BEAM && openings[gate] < FULLY_OPEN) {
                return 0;
            }
            int flow = widths[gate] * openings[gate] * head / 10;
            return kinds[gate] == FLAP && head >= HEAD_OVER_FLAP ? flow + widths[gate] : flow;
        }

        void letOut(int gate, int buckets) {
            if (has(gate)) {
                waterOut[gate] += buckets;
            }
        }

        void moveTowards(int gate, int told) {
            if (!has(gate)) {
                return;
            }
            int way = told - openings[gate];
            int step = Math.min(kinds[gate] == BEAM ? 2 : 1, Math.abs(way));
            openings[gate] += way < 0 ? -step : step;
            moves[gate]++;
        }

        /** The gate nearest to a place that is not fully open, of several the lowest one. */
        int nearestNotOpen(int place) {
            int nearest = NO_GATE;
            for (int gate = 0; gate < size && gate < MOST_GATES; gate++) {
                boolean nearer = nearest == NO_GATE || Math.abs(gate - place) < Math.abs(nearest - place);
                if (openings[gate] != FULLY_OPEN && nearer) {
                    nearest = gate;
                }
            }
            return nearest;
        }
    }

    /** A row of tasks, at most one for each gate. */
    private static final class Tasks {
        private final int[] gates = new int[MOST_GATES];
        private final int[] openings = new int[MOST_GATES];
        private final int most;
        private int size;

        private Tasks(int most) {
            this.most = Math.min(most, MOST_GATES);
        }

        void copyFrom(Tasks other) {
            size = other.size;
            System.arraycopy(other.gates, 0, gates, 0, MOST_GATES);
            System.arraycopy(other.openings, 0, openings, 0, MOST_GATES);
        }

        int size() {
            return size;
        }

        int gateAt(int index) {
            return index >= 0 && index < size && index < MOST_GATES ? gates[index] : NO_GATE;
        }

        int openingAt(int index) {
            return index >= 0 && index < size && index < MOST_GATES ? openings[index] : CLOSED;
        }

        int indexOf(int gate) {
            for (int i = 0; i < size && i < MOST_GATES; i++) {
                if (gates[i] == gate) {
                    return i;
                }
            }
            return ABSENT;
        }

        /** Puts a task in place of the one for the same gate, or else at the end. */
        void put(int gate, int opening) {
            int index = indexOf(gate);
            if (index == ABSENT && size < most) {
                index = size;
                size++;
            }
            if (index >= 0 && index < MOST_GATES) {
                gates[index] = gate;
                openings[index] = opening;
            }
        }

        /** Puts a task ahead of all; the one for the same gate is gone, or else the last of a full row. */
        void putFirst(int gate, int opening) {
            removeAt(indexOf(gate));
            if (size >= most) {
                removeAt(size - 1);
            }
            for (int i = Math.min(size, MOST_GATES - 1); i > 0; i--) {
                gates[i] = gates[i - 1];
                openings[i] = openings[i - 1];
            }
            gates[0] = gate;
            openings[0] = opening;
            size++;
        }

        /** Takes a task out of the row, if there is one at the index. */
        void removeAt(int index) {
            if (index < 0 || index >= size) {
                return;
            }
            for (int i = index; i < size - 1 && i < MOST_GATES - 1; i++) {
                gates[i] = gates[i + 1];
                openings[i] = openings[i + 1];
            }
            size--;
        }
    }

    /** All that a state records: lake, gates, crane, orders, marks, settings and accounts. */
    private static final class Dam {
        private final Gates gates = new Gates();
        private final Tasks orders = new Tasks(MOST_GATES);
        private final Tasks marks = new Tasks(MOST_MARKS);
        private final int[] settings = new int[SETTINGS];
        private int water = 2000;
        private int inflow;
        private int waterIn;
        private int waterOut;
        private int waterOver;
        private int minutesSoFar;
        private boolean flooded;
        private int floods;
        private int place;
        private int taskGate = NO_GATE;
        private int taskOpening;
        private int minutesWorked;
        private int tasksDone;
        private int tasksLeft;

        private Dam() {
            settings[FLOOD_BEGINS] = 8000;
            settings[FLOOD_ENDS] = 6000;
            settings[RULE] = FIRST_RULE;
        }

        void copyFrom(Dam other) {
            gates.copyFrom(other.gates);
            orders.copyFrom(other.orders);
            marks.copyFrom(other.marks);
            System.arraycopy(other.settings, 0, settings, 0, SETTINGS);
            water = other.water;
            inflow = other.inflow;
            waterIn = other.waterIn;
            waterOut = other.waterOut;
            waterOver = other.waterOver;
            minutesSoFar = other.minutesSoFar;
            flooded = other.flooded;
            floods = other.floods;
            place = other.place;
            taskGate = other.taskGate;
            taskOpening = other.taskOpening;
            minutesWorked = other.minutesWorked;
            tasksDone = other.tasksDone;
            tasksLeft = other.tasksLeft;
        }

        // ---- changes: each answers as the call of the face does, and changes nothing on an error

        int addGate(int kind, int width) {
            if (kind < SLUICE || kind > BEAM || width < 1 || width > MOST_WIDTH) {
                return INVALID_ARGUMENT;
            }
            if (gates.isFull()) {
                return LIMIT_REACHED;
            }
            gates.append(kind, width);
            return gates.size() - 1;
        }

        int giveOrder(int gate, int opening) {
            if (!gates.has(gate) || opening < CLOSED || opening > FULLY_OPEN) {
                return INVALID_ARGUMENT;
            }
            if (gates.kind(gate) == BEAM && opening % 2 != 0) {
                return NOT_POSSIBLE;
            }
            marks.removeAt(marks.indexOf(gate));
            orders.put(gate, opening);
            return orders.size();
        }

        int cancelOrder(int gate) {
            if (!gates.has(gate)) {
                return INVALID_ARGUMENT;
            }
            int index = orders.indexOf(gate);
            if (index == ABSENT) {
                return NOT_POSSIBLE;
            }
            int told = orders.openingAt(index);
            orders.removeAt(index);
            return told;
        }

        int changeInflow(int buckets) {
            if (buckets < 0 || buckets > MOST_INFLOW) {
                return INVALID_ARGUMENT;
            }
            int before = inflow;
            inflow = buckets;
            return before;
        }

        int changeWater(int buckets) {
            if (buckets < 0 || buckets > MOST_WATER) {
                return INVALID_ARGUMENT;
            }
            int before = water;
            water = buckets;
            return before;
        }

        int changeSetting(int what, int value) {
            if (what < 0 || what >= SETTINGS) {
                return INVALID_ARGUMENT;
            }
            int least = what == RULE ? FIRST_RULE : 1;
            int most = what == RULE ? GREATEST_CHANGE_RULE : MOST_WATER;
            if (value < least || value > most) {
                return INVALID_ARGUMENT;
            }
            int before = settings[what];
            settings[what] = value;
            return before;
        }

        /** The error by which minutes can't go by, or 0. */
        int refusalToPass(int minutes) {
            if (minutes < 1 || minutes > MOST_MINUTES_PASSED) {
                return INVALID_ARGUMENT;
            }
            return minutesSoFar + minutes > MOST_MINUTES ? LIMIT_REACHED : 0;
        }

        void letPass(int minutes) {
            for (int i = 0; i < minutes; i++) {
                beginOrEndFlood();
                takeTask();
                work();
                letWaterFlow();
                minutesSoFar++;
            }
        }

        // ---- what a minute does

        private void beginOrEndFlood() {
            if (floodIsDue()) {
                flooded = true;
                floods++;
                if (hasTask()) {
                    marks.putFirst(taskGate, taskOpening);
                }
                leaveTask();
            } else if (flooded && water < settings[FLOOD_ENDS]) {
                flooded = false;
                leaveTask();
            }
        }

        private void leaveTask() {
            if (hasTask()) {
                taskGate = NO_GATE;
                tasksLeft++;
            }
        }

        private void takeTask() {
            if (flooded && !hasTask()) {
                taskGate = gates.nearestNotOpen(place);
                taskOpening = FULLY_OPEN;
            }
            // Each round takes a mark or an order away, so there are no more than these.
            for (int i = 0; i < MOST_MARKS + MOST_GATES && !flooded && !hasTask() && somethingWaits(); i++) {
                if (marks.size() > 0) {
                    takeFrom(marks, 0);
                } else {
                    takeFrom(orders, chosenOrder());
                }
                endTaskIfDone();
            }
        }

        private void takeFrom(Tasks tasks, int index) {
            taskGate = tasks.gateAt(index);
            taskOpening = tasks.openingAt(index);
            tasks.removeAt(index);
        }

        /** The index of the order that the rule takes: the first one of the least cost. */
        private int chosenOrder() {
            int chosen = ABSENT;
            int least = 0;
            for (int i = 0; i < orders.size() && i < MOST_GATES; i++) {
                int cost = 0;
                if (settings[RULE] == NEAREST_RULE) {
                    cost = Math.abs(orders.gateAt(i) - place);
                } else if (settings[RULE] == GREATEST_CHANGE_RULE) {
                    cost = -Math.abs(orders.openingAt(i) - gates.opening(orders.gateAt(i)));
                }
                if (chosen == ABSENT || cost < least) {
                    chosen = i;
                    least = cost;
                }
            }
            return chosen;
        }

        private void work() {
            if (!hasTask()) {
                return;
            }
            minutesWorked++;
            if (place < taskGate) {
                place++;
            } else if (place > taskGate) {
                place--;
            } else {
                gates.moveTowards(taskGate, taskOpening);
                endTaskIfDone();
            }
        }

        private void endTaskIfDone() {
            if (hasTask() && gates.opening(taskGate) == taskOpening) {
                taskGate = NO_GATE;
                tasksDone++;
            }
        }

        private void letWaterFlow() {
            int headBefore = head();
            water += inflow;
            waterIn += inflow;
            for (int gate = 0; gate < gates.size() && gate < MOST_GATES; gate++) {
                int out = Math.min(gates.flow(gate, headBefore), water);
                gates.letOut(gate, out);
                water -= out;
                waterOut += out;
            }
            if (water > MOST_WATER) {
                waterOver += water - MOST_WATER;
                water = MOST_WATER;
            }
        }

        // ---- what there is

        int water() {
            return water;
        }

        private int head() {
            return water / 1000 + 1;
        }

        int rule() {
            return settings[RULE];
        }

        int floodLevel() {
            return settings[FLOOD_BEGINS];
        }

        boolean isFlooded() {
            return flooded;
        }

        boolean floodIsDue() {
            return !flooded && water >= settings[FLOOD_BEGINS];
        }

        private boolean hasTask() {
            return taskGate != NO_GATE;
        }

        private boolean somethingWaits() {
            return marks.size() > 0 || orders.size() > 0;
        }

        boolean rests() {
            return !hasTask() && !somethingWaits() && !flooded;
        }

        int ofGate(int gate, int what) {
            if (!gates.has(gate)) {
                return INVALID_ARGUMENT;
            }
            switch (what) {
                case 0: return gates.kind(gate);
                case 1: return gates.width(gate);
                case 2: return gates.opening(gate);
                case 3: return gates.flow(gate, head());
                case 4: return gates.waterOut(gate);
                case 5: return openingTold(orders, gate);
                case 6: return openingTold(marks, gate);
                case 7: return gates.moves(gate);
                default: return INVALID_ARGUMENT;
            }
        }

        private int openingTold(Tasks tasks, int gate) {
            int index = tasks.indexOf(gate);
            return index == ABSENT ? NOT_FOUND : tasks.openingAt(index);
        }

        int ofCrane(int what) {
            switch (what) {
                case 0: return place;
                case 1: return hasTask() ? taskGate : NOT_FOUND;
                case 2: return hasTask() ? taskOpening : NOT_FOUND;
                case 3: return minutesWorked;
                case 4: return tasksDone;
                case 5: return tasksLeft;
                case 6: return marks.size();
                default: return INVALID_ARGUMENT;
            }
        }

        int gateOfOrder(int index) {
            return gateIn(orders, index);
        }

        int gateOfMark(int index) {
            return gateIn(marks, index);
        }

        private int gateIn(Tasks tasks, int index) {
            if (index < 0) {
                return INVALID_ARGUMENT;
            }
            return index < tasks.size() ? tasks.gateAt(index) : NOT_FOUND;
        }

        int outlook(int what) {
            switch (what) {
                case 0: return water;
                case 1: return place;
                case 2: return marks.size();
                case 3: return orders.size();
                case 4: return flooded ? 1 : 0;
                default: return what >= 10 && gates.has(what - 10) ? gates.opening(what - 10) : INVALID_ARGUMENT;
            }
        }

        int number(int what) {
            switch (what) {
                case 0: return gates.size();
                case 1: return water;
                case 2: return inflow;
                case 3: return head();
                case 4: return minutesSoFar;
                case 5: return waterIn;
                case 6: return waterOut;
                case 7: return waterOver;
                case 8: return orders.size();
                case 9: return flooded ? 1 : 0;
                case 10: return floods;
                case 20: return settings[FLOOD_BEGINS];
                case 21: return settings[FLOOD_ENDS];
                case 22: return settings[RULE];
                default: return INVALID_ARGUMENT;
            }
        }
    }

    /** The states before the latest changes; the row behind them holds the state before a change that is tried. */
    private static final class History {
        private final Dam[] states = new Dam[MOST_STATES + 1];
        private int size;

        private History() {
            for (int i = 0; i < states.length; i++) {
                states[i] = new Dam();
            }
        }

        int size() {
            return size;
        }

        void prepare(Dam dam) {
            Dam spare = state(size);
            if (spare != null) {
                spare.copyFrom(dam);
            }
        }

        void keepPrepared() {
            if (size < MOST_STATES) {
                size++;
                return;
            }
            Dam oldest = states[0];
            for (int i = 1; i < states.length; i++) {
                states[i - 1] = states[i];
            }
            states[MOST_STATES] = oldest;
        }

        void restore(Dam dam) {
            Dam latest = state(size - 1);
            if (latest != null) {
                dam.copyFrom(latest);
                size--;
            }
        }

        private Dam state(int index) {
            return index >= 0 && index < states.length ? states[index] : null;
        }
    }

    /** The text, the order in it that was read last, and the fault of it that was found last. */
    private static final class Script {
        private final char[] signs = new char[MOST_CHARACTERS];
        private int length;
        private int next;
        private char letter;
        private int first;
        private int second;
        private int faultPlace;
        private int faultReason;

        int length() {
            return length;
        }

        int faultPlace() {
            return faultPlace;
        }

        int faultReason() {
            return faultReason;
        }

        int append(int character) {
            if (character < 32 || character > 126) {
                return INVALID_ARGUMENT;
            }
            if (length >= MOST_CHARACTERS) {
                return LIMIT_REACHED;
            }
            signs[length] = (char) character;
            length++;
            return length;
        }

        int empty() {
            int before = length;
            length = 0;
            return before;
        }

        /** Does the orders one after another, up to the first one that is not possible. */
        void doOrdersOn(Dam dam) {
            next = 0;
            faultReason = NO_FAULT;
            // An order has a character at least, so there are no more than these.
            for (int i = 0; i < MOST_CHARACTERS && next < length && faultReason == NO_FAULT; i++) {
                faultPlace = next;
                faultReason = readOrder() ? reasonOf(doOrder(dam)) : FAULT_OF_FORM;
            }
        }

        private int reasonOf(int answer) {
            if (!isError(answer)) {
                return NO_FAULT;
            }
            return answer == INVALID_ARGUMENT ? FAULT_OF_RANGE : FAULT_OF_STATE;
        }

        private int doOrder(Dam dam) {
            switch (letter) {
                case 'o': return dam.giveOrder(first, second);
                case 'i': return dam.changeInflow(first);
                case 'x': return dam.cancelOrder(first);
                case 'w': return dam.addGate(first, second);
                default: break;
            }
            int refusal = dam.refusalToPass(first);
            if (!isError(refusal)) {
                dam.letPass(first);
            }
            return refusal;
        }

        /** Reads the next order with its ";"; tells whether it is of the form. */
        private boolean readOrder() {
            letter = sign();
            next++;
            boolean hasTwoNumbers = letter == 'o' || letter == 'w';
            if (!hasTwoNumbers && letter != 'i' && letter != 'p' && letter != 'x') {
                return false;
            }
            first = readNumber();
            if (first == ABSENT) {
                return false;
            }
            if (hasTwoNumbers) {
                if (!readSign(',')) {
                    return false;
                }
                second = readNumber();
                if (second == ABSENT) {
                    return false;
                }
            }
            return readSign(';');
        }

        private boolean readSign(char due) {
            boolean found = sign() == due;
            next++;
            return found;
        }

        private int readNumber() {
            int value = 0;
            int digits = 0;
            while (digits < MOST_DIGITS && sign() >= '0' && sign() <= '9') {
                value = value * 10 + (sign() - '0');
                digits++;
                next++;
            }
            return digits == 0 ? ABSENT : value;
        }

        private char sign() {
            return next >= 0 && next < length && next < MOST_CHARACTERS ? signs[next] : END_OF_TEXT;
        }
    }
}
