/** Calls the program by the names of its calls. */
final class Program {
    private Program() { }

    static int call(CraneGates x, String name, int a, int b) {
        switch (name) {
            case "gate": return x.gate(a, b);
            case "order": return x.order(a, b);
            case "cancel": return x.cancel(a);
            case "inflow": return x.inflow(a);
            case "fill": return x.fill(a);
            case "set": return x.set(a, b);
            case "pass": return x.pass(a);
            case "gateOf": return x.gateOf(a, b);
            case "craneOf": return x.craneOf(a);
            case "orderAt": return x.orderAt(a);
            case "markAt": return x.markAt(a);
            case "would": return x.would(a, b);
            case "minutesUntil": return x.minutesUntil(a, b);
            case "minutesToRest": return x.minutesToRest();
            case "bestRule": return x.bestRule(a);
            case "leastFlood": return x.leastFlood(a);
            case "count": return x.count(a);
            case "undo": return x.undo();
            case "type": return x.type(a);
            case "clearText": return x.clearText();
            case "fault": return x.fault(a);
            case "play": return x.play();
            default: throw new IllegalArgumentException(name);
        }
    }
}
