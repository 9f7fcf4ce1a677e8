/** The boundary cases of undo(), of exceptions and of digest(), sentence by sentence. */
final class EdgeUndoTest {
    private static final Class<IllegalArgumentException> ARGUMENT = IllegalArgumentException.class;
    private static final Class<IllegalStateException> STATE = IllegalStateException.class;
    private static final Class<IndexOutOfBoundsException> INDEX = IndexOutOfBoundsException.class;
    private static final int FAR = 9999;
    private static final int MIN = Integer.MIN_VALUE;
    private static final int MAX = Integer.MAX_VALUE;

    /** A call, for whichever of two like objects it is to be made on. */
    private interface CallOn {
        long answer(PlateArm x);
    }

    public static void main(String[] args) {
        emptyStack();
        fourStates();
        eachUndoableSaves();
        alsoIfNothingChanges();
        othersSaveNone();
        theTextIsNotRestored();
        undoIsNotUndone();
        allIsRestored();
        theLogIsRestored();
        refusedCallsChangeNothing();
        refusedCallsOfAFullPlate();
        refusedCallsAtTheLastTick();
        theFirstListedIsThrown();
        noneOnlyWithoutExceptions();
        digestOfNew();
        digestWraps();
        digestOfFull();
        digestOfForecasts();
        call512();
        Due.end("EdgeUndoTest");
    }

    private static void emptyStack() {
        Due.sentence("Promise 23", "Throws IllegalStateException if the stack is empty");
        PlateArm x = new PlateArm();
        Due.refused(x, STATE, "undo() of a new one", x::undo);
        x.request(0, 0, 0);
        Due.due("undo() of the only one", x.undo(), 0);
        Due.refused(x, STATE, "undo() behind it", x::undo);
        x.request(0, 0, 0);
        Due.due("undo() of another one", x.undo(), 0);
        Due.refused(x, STATE, "undo() behind it", x::undo);
    }

    private static void fourStates() {
        Due.sentence("Terms", "The stack keeps the latest 4 saved states and drops older ones");
        for (int calls = 0; calls < 12; calls++) {
            PlateArm x = new PlateArm();
            for (int i = 0; i < calls; i++) {
                x.set(1, 4 + i);
            }
            int states = Math.min(calls, 4);
            for (int back = 1; back <= states; back++) {
                Due.due("undo() no. " + back + " of " + calls, x.undo(), states - back);
                Due.due("brake", x.whole(3), 3 + calls - back);
            }
            Due.refused(x, STATE, "undo() behind all of " + calls, x::undo);
        }
        PlateArm x = new PlateArm();
        for (int i = 0; i < 6; i++) {
            x.set(1, 10 + i);
        }
        x.undo();
        x.undo();
        x.set(1, 1);
        x.set(1, 2);
        x.set(1, 5);
        int[] wants = {2, 1, 13, 12};
        for (int i = 0; i < 4; i++) {
            Due.due("undo() of a mixed stack", x.undo(), 3 - i);
            Due.due("brake", x.whole(3), wants[i]);
        }
    }

    /** A moving arm and two requests, one read and one given up before, four states saved. */
    private static PlateArm used() {
        PlateArm x = new PlateArm();
        x.set(3, 2);
        x.request(0, 1, 0);
        x.request(9, 5, 0);
        // 1 reads 0, late; 2 starts; 3 gives up 1.
        x.pass(4);
        x.request(3, 3, FAR);
        x.pass(1);
        x.request(4, 5, 6);
        x.set(0, 2);
        return x;
    }

    private static void undoableDue(String call, CallOn made, long want) {
        PlateArm x = used();
        Due.type(x, "set 1 8;");
        x.undo();
        long before = x.digest();
        Due.due(call, made.answer(x), want);
        Due.due("undo() behind " + call, x.undo(), 3);
        Due.due("digest() behind undo() of " + call, x.digest(), before);
    }

    private static void eachUndoableSaves() {
        Due.sentence("Terms", "Every method that is marked \"undoable\" saves the whole state .. from before "
                + "the call");
        undoableDue("plate(4, 3)", x -> x.plate(4, 3), 2);
        undoableDue("request(0, 0, 0)", x -> x.request(0, 0, 0), 4);
        undoableDue("cancel(2)", x -> x.cancel(2), 1);
        undoableDue("set(2, 5)", x -> x.set(2, 5), 30);
        undoableDue("pass(99)", x -> x.pass(99), 1);
        undoableDue("finish()", x -> x.finish(), 5);
        undoableDue("runCommands()", x -> x.runCommands(), 1);
    }

    private static void alsoIfNothingChanges() {
        Due.sentence("Terms", "saves .. when it ends normally, also if it changes nothing");
        PlateArm x = new PlateArm();
        x.plate(12, 6);
        Due.due("undo() of the same plate", x.undo(), 0);
        x.set(0, 0);
        Due.due("undo() of the same value", x.undo(), 0);
        x.finish();
        Due.due("undo() of finish() without requests", x.undo(), 0);
        x.runCommands();
        Due.due("undo() of a run of none", x.undo(), 0);
        x.set(1, 9);
        for (int i = 0; i < 4; i++) {
            x.finish();
        }
        for (int left = 3; left >= 0; left--) {
            Due.due("undo()", x.undo(), left);
            Due.due("brake", x.whole(3), 9);
        }
        Due.refused(x, STATE, "undo()", x::undo);
    }

    private static void othersSaveNone() {
        Due.sentence("Terms", "Every method that is marked \"undoable\"");
        PlateArm x = new PlateArm();
        x.request(3, 0, FAR);
        x.type('x');
        x.runCommands();
        x.clearCommands();
        x.requestOf(0, 0);
        x.requestAt(0);
        x.logged(0, 0);
        x.arm(0);
        x.whole(0);
        x.target(0);
        x.readIn(0);
        x.finishBy(0, 0);
        x.bestWay();
        x.heatIn(9);
        x.widest();
        x.reason(0);
        x.digest();
        Due.due("undo() of the request", x.undo(), 0);
        Due.due("requests", x.whole(7), 0);
    }

    private static void theTextIsNotRestored() {
        Due.sentence("Terms", "saves the whole state but the command text");
        PlateArm x = new PlateArm();
        Due.type(x, "set 1 5;");
        x.set(1, 9);
        Due.type(x, "set 1 6;");
        x.undo();
        Due.due("the longer text stays", x.whole(17), 16);
        Due.due("runCommands()", x.runCommands(), 2);
        Due.due("brake", x.whole(3), 6);
        x.clearCommands();
        x.undo();
        Due.due("the empty text stays", x.whole(17), 0);
        x.plate(4, 3);
        x.type('a');
        x.undo();
        Due.due("the text behind undo() of plate()", x.whole(17), 1);
    }

    private static void undoIsNotUndone() {
        Due.sentence("Promise 23", "Restores the latest saved state and removes it from the undo stack");
        PlateArm x = new PlateArm();
        x.set(1, 9);
        x.set(1, 10);
        Due.due("undo()", x.undo(), 1);
        Due.due("brake", x.whole(3), 9);
        Due.due("undo() again", x.undo(), 0);
        Due.due("brake", x.whole(3), 3);
        Due.refused(x, STATE, "undo() of undo()", x::undo);
    }

    private static void allIsRestored() {
        Due.sentence("Terms", "saves the whole state");
        PlateArm x = used();
        x.pass(1);
        x.undo();
        Due.wholeDue(x, "used", 12, 6, 2, 3, 30, 2, 5, 2, 4, 1, 1, 1, 3, 1, 0, 0, 1, 0);
        Due.armDue(x, "used", 3, 1, 1, 0, 1, 5);
        Due.loggedDue(x, 0, 0, 0, 1, 1, 1);
        Due.requestDue(x, 2, 3, 3, FAR, 4, 0, 0);
        Due.requestDue(x, 3, 4, 5, 6, 5, 1, 0);
        PlateArm y = EdgeCallsTest.longTrips(20, 0);
        y.pass(1);
        y.undo();
        long before = y.digest();
        Due.due("finish()", y.finish(), 500);
        Due.due("undo() of 500 ticks", y.undo(), 3);
        Due.due("digest()", y.digest(), before);
        y.plate(12, 6);
        y.request(0, 0, 0);
        y.pass(1);
        y.undo();
        y.undo();
        y.undo();
        Due.due("requests", y.whole(7), 8);
        Due.due("target(0)", y.target(0), 10);
        Due.due("requestOf(17, 2)", y.requestOf(17, 2), 0);
    }

    private static void theLogIsRestored() {
        Due.sentence("Terms", "saves the whole state");
        PlateArm x = new PlateArm();
        for (int i = 0; i < 14; i++) {
            x.request(0, i % 6, i % 3);
            x.pass(1);
        }
        for (int i = 0; i < 12; i++) {
            x.request(0, 5, FAR);
        }
        Due.due("pass(6)", x.pass(6), 12);
        Due.loggedDue(x, 9, 16, 0, 5, 17, 0);
        x.undo();
        for (int back = 0; back < 10; back++) {
            int i = 13 - back;
            Due.loggedDue(x, back, i, 0, i % 6, i, 1);
        }
        Due.due("logged(10, 0)", x.logged(10, 0), -1);
    }

    /** On objects with four saved states: the refused call must leave each of them as it was. */
    private static void refusedDue(Class<? extends RuntimeException> want, String call, CallOn made) {
        PlateArm x = used();
        PlateArm y = used();
        Due.type(x, "set 1 8;");
        Due.type(y, "set 1 8;");
        Due.throwsDue(want, call, () -> made.answer(x));
        Due.due("digest() behind " + call, x.digest(), y.digest());
        for (int left = 3; left >= 0; left--) {
            Due.due("undo() behind " + call, x.undo(), left);
            y.undo();
            Due.due("digest() behind undo() behind " + call, x.digest(), y.digest());
        }
        Due.due("runCommands() behind " + call, x.runCommands(), 1);
    }

    private static void refusedCallsChangeNothing() {
        Due.sentence("Terms", "A call that throws an exception changes nothing");
        refusedDue(ARGUMENT, "plate(3, 6)", x -> x.plate(3, 6));
        refusedDue(ARGUMENT, "plate(12, 13)", x -> x.plate(12, 13));
        refusedDue(ARGUMENT, "request(12, 0, 0)", x -> x.request(12, 0, 0));
        refusedDue(ARGUMENT, "request(0, 6, 0)", x -> x.request(0, 6, 0));
        refusedDue(ARGUMENT, "request(0, 0, 10000)", x -> x.request(0, 0, 10000));
        refusedDue(INDEX, "cancel(4)", x -> x.cancel(4));
        refusedDue(INDEX, "cancel(0)", x -> x.cancel(0));
        refusedDue(ARGUMENT, "set(4, 0)", x -> x.set(4, 0));
        refusedDue(ARGUMENT, "set(0, 4)", x -> x.set(0, 4));
        refusedDue(ARGUMENT, "pass(0)", x -> x.pass(0));
        refusedDue(ARGUMENT, "pass(100)", x -> x.pass(100));
        refusedDue(INDEX, "requestOf(0, 0)", x -> x.requestOf(0, 0));
        refusedDue(ARGUMENT, "requestOf(2, 6)", x -> x.requestOf(2, 6));
        refusedDue(ARGUMENT, "requestAt(-1)", x -> x.requestAt(-1));
        refusedDue(ARGUMENT, "logged(-1, 0)", x -> x.logged(-1, 0));
        refusedDue(ARGUMENT, "logged(0, 5)", x -> x.logged(0, 5));
        refusedDue(ARGUMENT, "arm(6)", x -> x.arm(6));
        refusedDue(ARGUMENT, "whole(18)", x -> x.whole(18));
        refusedDue(ARGUMENT, "target(4)", x -> x.target(4));
        refusedDue(INDEX, "readIn(0)", x -> x.readIn(0));
        refusedDue(ARGUMENT, "finishBy(4, 0)", x -> x.finishBy(4, 0));
        refusedDue(ARGUMENT, "finishBy(0, 5)", x -> x.finishBy(0, 5));
        refusedDue(ARGUMENT, "heatIn(100)", x -> x.heatIn(100));
        refusedDue(INDEX, "reason(1)", x -> x.reason(1));
        refusedDue(ARGUMENT, "type(128)", x -> x.type(128));
        refusedDue(ARGUMENT, "type(-1)", x -> x.type(-1));
    }

    private static void refusedCallsOfAFullPlate() {
        Due.sentence("Terms", "A call that throws an exception changes nothing");
        PlateArm x = new PlateArm();
        for (int i = 0; i < 12; i++) {
            x.request(11 - i, 5, 12 + i);
        }
        Due.refused(x, STATE, "request(0, 0, 0)", () -> x.request(0, 0, 0));
        for (int left = 3; left >= 0; left--) {
            Due.due("undo()", x.undo(), left);
            Due.due("requests", x.whole(7), 8 + left);
            Due.due("the next number", x.whole(8), 8 + left);
        }
        PlateArm y = new PlateArm();
        Due.type(y, "set 1 9;".repeat(18) + "  ;  ;");
        for (int i = 0; i < 9; i++) {
            Due.refused(y, STATE, "type(32)", () -> y.type(32));
        }
        Due.due("runCommands()", y.runCommands(), -156);
        Due.refused(y, STATE, "undo()", y::undo);
    }

    private static void refusedCallsAtTheLastTick() {
        Due.sentence("Terms", "A call that throws an exception changes nothing");
        PlateArm x = new PlateArm();
        Due.passTo(x, 9990);
        x.set(0, 1);
        x.request(11, 0, FAR);
        x.cancel(0);
        x.request(9, 0, FAR);
        for (int i = 0; i < 3; i++) {
            Due.refused(x, STATE, "finish()", x::finish);
            Due.refused(x, STATE, "pass(10)", () -> x.pass(10));
            Due.refused(x, STATE, "pass(99)", () -> x.pass(99));
        }
        Due.wholeDue(x, "behind", 12, 6, 1, 3, 30, 0, 9990, 1, 2, 0, 0, 0, 0, 0, 0, 0, 0, 0);
        Due.due("undo()", x.undo(), 3);
        Due.due("requests", x.whole(7), 0);
        Due.due("undo()", x.undo(), 2);
        Due.due("requests", x.whole(7), 1);
        Due.due("undo()", x.undo(), 1);
        Due.due("told", x.whole(8), 0);
        Due.due("undo()", x.undo(), 0);
        Due.due("way", x.whole(2), 0);
        Due.due("pass(9)", x.pass(9), 0);
    }

    private static void theFirstListedIsThrown() {
        Due.sentence("Terms", "If several exceptions of a method apply, the one that is listed first is "
                + "thrown");
        PlateArm x = new PlateArm();
        for (int i = 0; i < 12; i++) {
            x.request(0, 5, FAR);
        }
        Due.refused(x, ARGUMENT, "request(-1, 0, 0) of twelve", () -> x.request(-1, 0, 0));
        Due.refused(x, ARGUMENT, "request(0, 0, -1) of twelve", () -> x.request(0, 0, -1));
        Due.refused(x, INDEX, "requestOf(12, 6)", () -> x.requestOf(12, 6));
        Due.refused(x, INDEX, "requestOf(-1, -1)", () -> x.requestOf(-1, -1));
        PlateArm y = new PlateArm();
        Due.passTo(y, 9999);
        Due.refused(y, ARGUMENT, "pass(0) at 9999", () -> y.pass(0));
        Due.refused(y, ARGUMENT, "pass(100) at 9999", () -> y.pass(100));
        Due.type(y, " ".repeat(150));
        Due.refused(y, ARGUMENT, "type(-1) behind 150", () -> y.type(-1));
        Due.refused(y, ARGUMENT, "type(128) behind 150", () -> y.type(128));
    }

    private static void noneOnlyWithoutExceptions() {
        Due.sentence("Terms", "NONE is returned only if no exception applies");
        PlateArm x = new PlateArm();
        Due.due("requestAt(0)", x.requestAt(0), PlateArm.NONE);
        Due.refused(x, ARGUMENT, "requestAt(-1)", () -> x.requestAt(-1));
        Due.due("logged(0, 4)", x.logged(0, 4), PlateArm.NONE);
        Due.refused(x, ARGUMENT, "logged(0, 5)", () -> x.logged(0, 5));
        Due.refused(x, ARGUMENT, "logged(MAX, -1)", () -> x.logged(MAX, -1));
        Due.refused(x, ARGUMENT, "logged(MIN, 0)", () -> x.logged(MIN, 0));
        Due.due("target(3)", x.target(3), PlateArm.NONE);
        Due.refused(x, ARGUMENT, "target(4)", () -> x.target(4));
        Due.refused(x, INDEX, "readIn(0)", () -> x.readIn(0));
        Due.due("NONE", PlateArm.NONE, -1);
    }

    private static long mixed(long h, long... values) {
        long mixed = h;
        for (long v : values) {
            mixed = 31 * mixed + v;
        }
        return mixed;
    }

    private static void digestOfNew() {
        Due.sentence("Promise 24", "It starts with h = 43906. For each of the following values v, in this "
                + "order, h becomes 31 * h + v");
        PlateArm x = new PlateArm();
        long h = mixed(43906, 0, 12, 6, 0, 3, 30, 0, 0, 0, 0, 0, 0, 0, 0, 0, 0, 0, 0, 0, 0, 0, 0, 0, 1, 0);
        h = mixed(h, -1, 0, 0, 0, -1, 0, 0, 0, -1, 0, 0, 0, -1, 0, 0, 0, 0, 0, 0);
        Due.due("without requests and readings", x.digest(), h);
        x.type('x');
        h = mixed(43906, 0, 12, 6, 0, 3, 30, 0, 0, 0, 0, 0, 0, 0, 0, 0, 0, 0, 0, 1, 0, 0, 0, 0, 1, 0);
        h = mixed(h, -1, 0, 0, 0, -1, 0, 0, 0, -1, 0, 0, 0, -1, 0, 0, 0, 0, 0, 0);
        Due.due("with a byte", x.digest(), h);
    }

    private static void digestWraps() {
        Due.sentence("Promise 24", "(long arithmetic, overflow wraps)");
        PlateArm x = new PlateArm();
        x.request(0, 0, 0);
        x.request(2, 1, 3);
        x.pass(1);
        // In the tick 1: 1 starts, 2 steps, 3 brakes (heat 3), 7 reads, late.
        long h = mixed(43906, 3, 12, 6, 0, 3, 30, 0, 1, 1, 2, 1, 0, 0, 0, 0, 0, 0, 0, 0, 0, 0, 0, 0, 1, 1);
        h = mixed(h, 1, 2, 1, 3, 0, 2, 0, 0, 0, 0, 0, 0);
        h = mixed(h, 1, 7, 1, 1, 1, 7, 1, 1, 1, 7, 1, 1, 1, 7, 1, 1, 0, 0, 0);
        Due.due("with a request and a reading", x.digest(), h);
    }

    private static void digestOfFull() {
        Due.sentence("Promise 24", "for each request, by its number, .. for each reading in the log, from "
                + "the latest one on");
        PlateArm x = new PlateArm();
        for (int i = 0; i < 12; i++) {
            x.request(0, 0, i % 2 == 0 ? 0 : FAR);
        }
        x.pass(7);
        x.undo();
        x.pass(1);
        for (int i = 12; i < 24; i++) {
            x.request(0, 5, FAR);
        }
        long h = mixed(43906, 4, 12, 6, 0, 3, 30, 0, 1, 12, 24, 12, 0, 0, 0, 0, 0, 0, 0, 0, 0, 0, 0, 0, 1, 1);
        for (int i = 12; i < 24; i++) {
            h = mixed(h, i, 0, 5, FAR, 1, 0, 0);
        }
        for (int i = 11; i > 1; i--) {
            h = mixed(h, i, 0, 0, 0, 0);
        }
        h = mixed(h, 12, 5, 12, 0, 12, 5, 12, 0, 12, 5, 12, 0, 12, 5, 12, 0, 0, 0, 0);
        Due.due("of twelve requests and ten readings", x.digest(), h);
    }

    private static void digestOfForecasts() {
        Due.sentence("Promise 24", "for each way target(), and finishBy() of 0 to 2; bestWay(); heatIn() of "
                + "10; widest()");
        PlateArm x = EdgeCallsTest.hot(0);
        x.request(3, 6, FAR);
        x.request(1, 2, FAR);
        // The rest ends in 119, 120 starts. By 0 and 3: 123 brakes, 126 reads; 127 starts, 129 brakes, 134 reads.
        // By 1 and 2: 121 brakes, 122 reads; 123 starts, 125 brakes, 126 reads.
        long h = mixed(43906, 4, 24, 12, 0, 20, 200, 0, 20, 2, 12, 0, 0, 0, 10, 10, 10, 0, 200, 0);
        h = mixed(h, 0, 0, 200, 1, 1, 8);
        h = mixed(h, 10, 3, 6, FAR, 20, 3, 0, 11, 1, 2, FAR, 20, 1, 0);
        h = mixed(h, 10, 115, 2, 0, 11, 107, 2, 0, 11, 107, 2, 0, 10, 115, 2, 0);
        h = mixed(h, 1, 190, 2);
        Due.due("of a hot one", x.digest(), h);
    }

    private static void call512() {
        Due.sentence("What it is", "An object is used for at most 512 calls");
        PlateArm x = new PlateArm();
        for (int i = 0; i < 170; i++) {
            Due.due("request no. " + i, x.request(0, i % 6, FAR), i);
            Due.due("pass(1)", x.pass(1), 1);
            x.digest();
        }
        Due.due("call 511", x.whole(9), 170);
        Due.due("call 512", x.undo(), 3);
    }
}
