import java.util.function.Consumer;

/** Each sentence of "Texts" and of promises 20 to 23 that names an edge, with a test of its own. */
final class EdgesOfTextsTest {
    private static final int INVALID = -1000001;
    private static final int IMPOSSIBLE = -1000002;
    private static final int LIMIT = -1000003;
    private static final int NOTHING = -1000004;
    private static final int RIGHT = 0;

    private static final Check check = new Check("EdgesOfTextsTest");

    private EdgesOfTextsTest() { }

    public static void main(String[] args) {
        length();
        form();
        rangeOrState();
        places();
        playing();
        check.end();
    }

    private static void length() {
        emptyAtFirst();
        atMost60Characters();
        sixtyCharactersAreLookedAt();
        charactersFrom32To126();
        clearTextEmpty();
        clearTextFull();
    }

    private static void form() {
        fiveLetters();
        howManyNumbers();
        oneToThreeDigits();
        digitsAndTheirNeighbours();
        semicolonIncluded();
        nothingBetween();
    }

    private static void rangeOrState() {
        numberOutOfItsRange();
        noSuchGate();
        oddForABeam();
        noOrderThatWaits();
        ninthGate();
        minutesBeyondTheLimit();
        formRatherThanRange();
        rangeRatherThanState();
        whenThoseAheadAreDone();
    }

    private static void places() {
        placeFrom0();
        firstOrderThatIsNotPossible();
        faultOfTheEmptyText();
        faultArguments();
        faultIsFoundAnew();
    }

    private static void playing() {
        playDoesAsTheCalls();
        playOfTheEmptyText();
        playIsOneChange();
        playLeavesTheText();
        playWithAFaultDoesNothing();
    }

    private static void due(String call, long got, long want) {
        check.due(call, got, want);
    }

    /** Gate 0 is a sluice with an order that waits for it, gate 1 a beam. */
    private static CraneGates home() {
        CraneGates x = Make.sluices(1);
        x.gate(Make.BEAM, 1);
        x.order(0, 4);
        return x;
    }

    private static void right(CraneGates x, String text) {
        Make.write(x, text);
        due("fault(0) of '" + text + "'", x.fault(0), NOTHING);
        due("fault(1) of '" + text + "'", x.fault(1), NOTHING);
    }

    private static void wrong(CraneGates x, String text, int place, int reason) {
        Make.write(x, text);
        due("fault(0) of '" + text + "'", x.fault(0), place);
        due("fault(1) of '" + text + "'", x.fault(1), reason);
        due("play() of '" + text + "'", x.play(), IMPOSSIBLE);
    }

    /** One order alone, and behind another one. */
    private static void order(String text, int reason) {
        if (reason == RIGHT) {
            right(home(), text);
            right(home(), "i5;" + text);
        } else {
            wrong(home(), text, 0, reason);
            wrong(home(), "i5;" + text, 3, reason);
        }
    }

    // ---- "There is a text of at most 60 characters, initially empty"
    private static void emptyAtFirst() {
        CraneGates x = new CraneGates();
        due("count(12) at first", x.count(12), 0);
        due("the first character", x.type('p'), 1);
        due("count(12)", x.count(12), 1);
    }

    private static void atMost60Characters() {
        CraneGates x = new CraneGates();
        for (int length = 1; length <= 60; length++) {
            due("character " + length, x.type('1'), length);
        }
        due("the 61st", x.type('1'), LIMIT);
        due("the 61st again", x.type(';'), LIMIT);
        due("count(12)", x.count(12), 60);
    }

    private static void sixtyCharactersAreLookedAt() {
        CraneGates x = Make.write(new CraneGates(), "p1;".repeat(19) + "i5;");
        due("60 characters", x.count(12), 60);
        due("no fault", x.fault(0), NOTHING);
        due("play()", x.play(), 2000);
        due("the last order is done", x.count(2), 5);
        due("so are those ahead of it", x.count(4), 19);
        x.type('q');
        due("what was refused is no part of it", x.fault(0), NOTHING);
        wrong(new CraneGates(), "p1;".repeat(19) + "i5,", 57, 1);
        wrong(new CraneGates(), "p1;".repeat(19) + "i51", 57, 1);
        wrong(new CraneGates(), "p1;".repeat(19) + "i5", 57, 1);
        wrong(new CraneGates(), "p1;".repeat(19) + "i", 57, 1);
        right(new CraneGates(), "p1;".repeat(19));
        // 59 characters of orders, and one more
        right(new CraneGates(), "p1;".repeat(17) + "p10;p10;");
        wrong(new CraneGates(), "p1;".repeat(17) + "p10;p10;;", 59, 1);
    }

    // ---- "`character`: 32 to 126"
    private static void charactersFrom32To126() {
        CraneGates x = new CraneGates();
        int[] out = {31, 127, 0, -1, 10, 128, 255, 256 + 65, 65536 + 65, Integer.MIN_VALUE, Integer.MAX_VALUE};
        for (int character : out) {
            due("type(" + character + ")", x.type(character), INVALID);
        }
        due("count(12)", x.count(12), 0);
        due("type(32)", x.type(32), 1);
        due("type(126)", x.type(126), 2);
    }

    // ---- "Empties the text. Returns the length it had."
    private static void clearTextEmpty() {
        CraneGates x = new CraneGates();
        due("clearText() of nothing", x.clearText(), 0);
        due("count(12)", x.count(12), 0);
        due("count(11)", x.count(11), 0);
    }

    private static void clearTextFull() {
        CraneGates x = Make.write(new CraneGates(), "i5;".repeat(20));
        due("clearText() of 60", x.clearText(), 60);
        due("count(12)", x.count(12), 0);
        due("no fault", x.fault(0), NOTHING);
        due("there is room again", x.type('p'), 1);
        due("what was there is gone", x.fault(1), 1);
        x.type('2');
        x.type(';');
        due("play()", x.play(), 2000);
        due("count(2)", x.count(2), 0);
        due("count(4)", x.count(4), 2);
    }

    // ---- ""o" a gate, ",", an opening .., "i" an inflow, "p" minutes .., "x" a gate .., or "w" a kind, ",", a width"
    private static void fiveLetters() {
        for (char c = 32; c < 127; c++) {
            order(c + "0;", c == 'i' || c == 'x' ? RIGHT : c == 'p' ? 2 : 1);
            order(c + "1;", c == 'i' || c == 'p' ? RIGHT : c == 'x' ? 3 : 1);
            order(c + "0,2;", c == 'o' || c == 'w' ? RIGHT : 1);
        }
    }

    private static void howManyNumbers() {
        String[] one = {"i", "p", "x"};
        for (String letter : one) {
            order(letter + ";", 1);
            order(letter + ",;", 1);
            order(letter + "0,;", 1);
            order(letter + ",0;", 1);
            order(letter + "0,0;", 1);
        }
        String[] two = {"o", "w"};
        for (String letter : two) {
            order(letter + ";", 1);
            order(letter + "0;", 1);
            order(letter + ",;", 1);
            order(letter + "0,;", 1);
            order(letter + ",2;", 1);
            order(letter + "0,,2;", 1);
            order(letter + "0;2;", 1);
            order(letter + "0.2;", 1);
            order(letter + "0,2,;", 1);
            order(letter + "0,2,2;", 1);
        }
    }

    // ---- "numbers of 1 to 3 digits, 0 ahead allowed"
    private static void oneToThreeDigits() {
        String[] forms = {"o#,4;", "o0,#;", "i#;", "p#;", "x#;", "w#,3;", "w2,#;"};
        String[] numbers = {"0", "4", "4", "4", "0", "2", "4"};
        for (int i = 0; i < forms.length; i++) {
            order(forms[i].replace("#", ""), 1);
            order(forms[i].replace("#", numbers[i]), RIGHT);
            order(forms[i].replace("#", "0" + numbers[i]), RIGHT);
            order(forms[i].replace("#", "00" + numbers[i]), RIGHT);
            order(forms[i].replace("#", "000" + numbers[i]), 1);
            order(forms[i].replace("#", "999"), 2);
            order(forms[i].replace("#", "1000"), 1);
            order(forms[i].replace("#", "99999999999"), 1);
        }
        order("o0,10;", RIGHT);
        order("o0,010;", RIGHT);
        order("i300;", RIGHT);
        order("i0300;", 1);
        order("p240;", RIGHT);
        order("w2,020;", RIGHT);
        CraneGates x = Make.write(new CraneGates(), "i123;p045;");
        x.play();
        due("the digits in their order", x.count(2), 123);
        due("0 ahead is no octal", x.count(4), 45);
    }

    private static void digitsAndTheirNeighbours() {
        for (char c = 32; c < 127; c++) {
            boolean digit = c >= '0' && c <= '9';
            order("i" + c + ";", digit ? RIGHT : 1);
            order("i" + c + "1;", digit ? RIGHT : 1);
            // behind "i1;" another order begins, see semicolonIncluded
            if (c != ';') {
                order("i1" + c + ";", digit ? RIGHT : 1);
            }
        }
        for (int digit = 0; digit < 10; digit++) {
            CraneGates x = Make.write(new CraneGates(), "i" + digit + ";");
            x.play();
            due("the digit " + digit, x.count(2), digit);
        }
    }

    // ---- "orders, each followed by ";"" and "if it is not of this form, its ";" included"
    private static void semicolonIncluded() {
        String[] orders = {"o0,2", "i5", "p5", "x0", "w0,2"};
        for (String text : orders) {
            order(text, 1);
            order(text + ";", RIGHT);
            order(text + ":", 1);
            order(text + ",", 1);
            order(text + " ;", 1);
            order(text + "i5;", 1);
        }
        order(";", 1);
        wrong(home(), "i5;;", 3, 1);
        wrong(home(), ";i5;", 0, 1);
    }

    private static void nothingBetween() {
        String[] spaced = {" i5;", "i 5;", "i5 ;", "o 0,2;", "o0 ,2;", "o0, 2;", "o0,2 ;", "I5;", "i+5;", "i-5;"};
        for (String text : spaced) {
            order(text, 1);
        }
        wrong(home(), "i5; ", 3, 1);
        wrong(home(), "i5; i6;", 3, 1);
        wrong(home(), "p9;i5,", 3, 1);
    }

    // ---- "2 if a number is out of its range"
    private static void numberOutOfItsRange() {
        String[] in = {"o0,0;", "o0,10;", "o1,10;", "i0;", "i300;", "p1;", "p240;", "w0,1;", "w0,20;", "w2,1;", "w2,20;"};
        for (String text : in) {
            order(text, RIGHT);
        }
        String[] out = {"o0,11;", "o0,999;", "i301;", "i999;", "p0;", "p000;", "p241;", "p999;", "w3,1;", "w999,1;", "w0,0;",
            "w0,21;", "w3,0;"};
        for (String text : out) {
            order(text, 2);
        }
    }

    // ---- "or there is no such gate"
    private static void noSuchGate() {
        order("o1,2;", RIGHT);
        order("o2,2;", 2);
        order("o999,2;", 2);
        order("x0;", RIGHT);
        order("x2;", 2);
        order("x999;", 2);
        wrong(new CraneGates(), "o0,2;", 0, 2);
        wrong(new CraneGates(), "x0;", 0, 2);
        right(Make.sluices(8), "o7,2;x7;");
        wrong(Make.sluices(8), "o8,2;", 0, 2);
        wrong(Make.sluices(8), "x8;", 0, 2);
    }

    // ---- "and 3 if it is not possible otherwise"
    private static void oddForABeam() {
        for (int opening = 0; opening <= 10; opening++) {
            order("o1," + opening + ";", opening % 2 == 0 ? RIGHT : 3);
            order("o0," + opening + ";", RIGHT);
        }
    }

    private static void noOrderThatWaits() {
        order("x1;", 3);
        order("o1,2;x1;", RIGHT);
        wrong(home(), "x0;x0;", 3, 3);
        wrong(home(), "o0,3;p1;x0;", 8, 3);
        CraneGates x = home();
        x.pass(1);
        wrong(x, "x0;", 0, 3);
    }

    private static void ninthGate() {
        right(Make.sluices(7), "w0,1;");
        wrong(Make.sluices(7), "w0,1;w0,1;", 5, 3);
        wrong(Make.sluices(8), "w0,1;", 0, 3);
        right(new CraneGates(), "w0,1;".repeat(8));
        wrong(new CraneGates(), "w0,1;".repeat(9), 40, 3);
    }

    private static void minutesBeyondTheLimit() {
        CraneGates x = Make.late();
        due("count(4)", x.count(4), 49920);
        right(x, "p80;");
        wrong(x, "p81;", 0, 3);
        wrong(x, "p80;p1;", 4, 3);
        wrong(x, "p40;p41;", 4, 3);
        right(x, "p40;p40;");
        due("count(4)", x.count(4), 49920);
        due("play() up to the limit", x.play(), 2000);
        due("count(4)", x.count(4), 50000);
        wrong(x, "p1;", 0, 3);
    }

    private static void formRatherThanRange() {
        order("o0,11", 1);
        order("o9,9,", 1);
        order("i301", 1);
        order("p0:", 1);
        order("x9", 1);
        order("w3,21", 1);
        order("o1,9", 1);
        order("x1", 1);
        wrong(Make.sluices(8), "w0,1", 0, 1);
        wrong(Make.late(), "p81", 0, 1);
    }

    private static void rangeRatherThanState() {
        order("o1,11;", 2);
        order("o2,9;", 2);
        wrong(Make.sluices(8), "w3,1;", 0, 2);
        wrong(Make.sluices(8), "w0,0;", 0, 2);
        wrong(Make.sluices(8), "w0,21;", 0, 2);
        wrong(Make.late(), "p241;", 0, 2);
        wrong(Make.late(), "p0;", 0, 2);
    }

    // ---- "when those ahead of it are done"
    private static void whenThoseAheadAreDone() {
        right(new CraneGates(), "w0,1;o0,5;x0;");
        wrong(new CraneGates(), "o0,5;w0,1;", 0, 2);
        wrong(new CraneGates(), "w2,1;o0,5;", 5, 3);
        wrong(new CraneGates(), "w0,1;x0;", 5, 3);
        wrong(new CraneGates(), "w0,1;o1,5;", 5, 2);
        // gate 0 is told to open by 1: it waits until a minute goes by
        right(Make.sluices(1), "o0,1;i7;x0;");
        wrong(Make.sluices(1), "o0,1;i7;p1;x0;", 11, 3);
        // a flood begins, so the order waits
        CraneGates x = Make.sluices(1);
        x.fill(7701);
        right(x, "i299;p1;o0,1;p1;x0;");
        wrong(x, "i298;p1;o0,1;p1;x0;", 16, 3);
    }

    // ---- "The fault of the text is the position, from 0, of the first character of the first order that is not possible"
    private static void placeFrom0() {
        wrong(home(), "q", 0, 1);
        wrong(home(), "p1;q", 3, 1);
        wrong(home(), "p10;p100;i5;o0,5;o00,010;w000,020;x0;x9;", 37, 2);
        wrong(home(), "i000;".repeat(11) + "i301;", 55, 2);
    }

    private static void firstOrderThatIsNotPossible() {
        wrong(home(), "x2;q", 0, 2);
        wrong(home(), "x1;q", 0, 3);
        wrong(home(), "i301;x1;q", 0, 2);
        wrong(home(), "i300;x1;x2;q", 5, 3);
        wrong(home(), "i300;x0;q;x2;", 8, 1);
    }

    // ---- "NOT_FOUND if the text has no fault (also if it is empty)"
    private static void faultOfTheEmptyText() {
        CraneGates x = new CraneGates();
        due("fault(0) of the empty text", x.fault(0), NOTHING);
        due("fault(1) of the empty text", x.fault(1), NOTHING);
        wrong(x, "p", 0, 1);
        x.clearText();
        due("fault(0) of the emptied text", x.fault(0), NOTHING);
        due("fault(1) of the emptied text", x.fault(1), NOTHING);
        right(x, "p1;");
    }

    // ---- "`what`: 0: its position; 1: its reason"
    private static void faultArguments() {
        int[] out = {-1, 2, 3, Integer.MIN_VALUE, Integer.MAX_VALUE};
        CraneGates x = Make.write(home(), "p1;q");
        CraneGates y = Make.write(home(), "p1;");
        for (int what : out) {
            due("fault(" + what + ")", x.fault(what), INVALID);
            due("fault(" + what + ") without a fault", y.fault(what), INVALID);
        }
    }

    private static void faultIsFoundAnew() {
        CraneGates x = Make.write(home(), "x0;");
        due("an order waits", x.fault(1), NOTHING);
        x.cancel(0);
        due("none waits", x.fault(1), 3);
        due("at 0", x.fault(0), 0);
        x.undo();
        due("an order waits again", x.fault(0), NOTHING);
        x.type('x');
        due("the text went on", x.fault(0), 3);
        due("fault() changes nothing", x.fault(0), 3);
    }

    // ---- "Does all orders of the text": each as the call that it stands for
    private static void playDoesAsTheCalls() {
        asCalls("o0,7;", x -> x.order(0, 7));
        asCalls("o1,10;", x -> x.order(1, 10));
        asCalls("i300;", x -> x.inflow(300));
        asCalls("i0;", x -> x.inflow(0));
        asCalls("p1;", x -> x.pass(1));
        asCalls("p240;", x -> x.pass(240));
        asCalls("x0;", x -> x.cancel(0));
        asCalls("w0,1;", x -> x.gate(0, 1));
        asCalls("w2,20;", x -> x.gate(2, 20));
        asCalls("o1,6;i9;p3;x1;w1,7;o2,9;p12;", x -> {
            x.order(1, 6);
            x.inflow(9);
            x.pass(3);
            x.cancel(1);
            x.gate(1, 7);
            x.order(2, 9);
            x.pass(12);
        });
    }

    private static void asCalls(String text, Consumer<CraneGates> calls) {
        CraneGates x = Make.write(home(), text);
        CraneGates y = home();
        calls.accept(y);
        due("play() of " + text, x.play(), y.count(1));
        Looks.same(check, "play() of " + text, Looks.state(x), Looks.state(y));
    }

    // ---- "They are one change, also if there are none."
    private static void playOfTheEmptyText() {
        CraneGates x = new CraneGates();
        due("play() of nothing", x.play(), 2000);
        due("it is a change", x.count(11), 1);
        due("no minute", x.count(4), 0);
        for (int i = 2; i < 7; i++) {
            due("play() of nothing", x.play(), 2000);
            due("it is a change", x.count(11), Math.min(i, 4));
        }
    }

    private static void playIsOneChange() {
        CraneGates x = Make.write(home(), "p1;".repeat(20));
        int states = x.count(11);
        x.undo();
        x.undo();
        due("count(11)", x.count(11), states - 2);
        x.play();
        due("one state more", x.count(11), states - 1);
        due("count(4)", x.count(4), 20);
        due("undo()", x.undo(), states - 2);
        due("all 20 orders are undone", x.count(4), 0);
    }

    // ---- "which stays"
    private static void playLeavesTheText() {
        CraneGates x = Make.write(new CraneGates(), "p5;i9;");
        x.play();
        due("the text stays", x.count(12), 6);
        due("play() again", x.play(), 2000 + 45);
        due("count(4)", x.count(4), 10);
        x.undo();
        x.undo();
        due("the text is in no state", x.count(12), 6);
        due("and can be played", x.play(), 2000);
    }

    // ---- "NOT_POSSIBLE if it has a fault."
    private static void playWithAFaultDoesNothing() {
        String[] faulty = {"i9;p5;w0,3;o0,1;q", "i9;p5;w0,3;o0,1;o0,11;", "i9;p5;w0,3;o0,1;o1,1;", "p1;p1", ";"};
        for (String text : faulty) {
            CraneGates x = Make.write(home(), text);
            CraneGates y = Make.write(home(), text);
            due("play() of " + text, x.play(), IMPOSSIBLE);
            Looks.same(check, "play() of " + text, x, y, 3);
        }
    }
}
