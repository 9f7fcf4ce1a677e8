/** Promises 1 to 7: a new object, plate, request, cancel, set, pass, finish. */
final class PlateTest {
    private static final Class<IllegalArgumentException> ARGUMENT = IllegalArgumentException.class;
    private static final Class<IllegalStateException> STATE = IllegalStateException.class;
    private static final Class<IndexOutOfBoundsException> INDEX = IndexOutOfBoundsException.class;

    public static void main(String[] args) {
        newObject();
        plate();
        anotherPlate();
        plateWhileItMoves();
        request();
        twelveRequests();
        cancel();
        set();
        pass();
        aTrip();
        aRest();
        restWhileMoving();
        limitAndHalf();
        nothingIsReadOnTheWay();
        late();
        givenUp();
        manyAtOnce();
        brakesWithoutTarget();
        ways();
        sweep();
        lastTick();
        finish();
        finishStopsAt500();
        Due.end("PlateTest");
    }

    private static void newObject() {
        PlateArm x = new PlateArm();
        Due.wholeDue(x, "new", 12, 6, 0, 3, 30, 0, 0, 0, 0, 0, 0, 0, 0, 0, 0, 0, 0, 0);
        Due.armDue(x, "new", 0, 0, 0, 0, 1, 0);
        Due.due("new: requestAt(0)", x.requestAt(0), -1);
        Due.loggedDue(x, 0, -1, -1, -1, -1, -1);
        Due.throwsDue(STATE, "new: undo()", x::undo);
        Due.due("new: clearCommands()", x.clearCommands(), 0);
    }

    private static void plate() {
        PlateArm x = new PlateArm();
        int[][] wrong = {{3, 6}, {25, 6}, {12, 2}, {12, 13}, {-4, 6}, {12, -3},
            {Integer.MAX_VALUE, Integer.MAX_VALUE}, {Integer.MIN_VALUE, 0}};
        for (int[] w : wrong) {
            Due.refused(x, ARGUMENT, "plate(" + w[0] + ", " + w[1] + ")", () -> x.plate(w[0], w[1]));
        }
        Due.throwsDue(STATE, "undo() behind refusals", x::undo);
        int[][] right = {{4, 3}, {24, 12}, {4, 12}, {24, 3}};
        for (int[] r : right) {
            Due.due("plate(" + r[0] + ", " + r[1] + ")", x.plate(r[0], r[1]), 0);
            Due.wholeDue(x, "plate", r[0], r[1]);
        }
        Due.due("undo() of plate", x.undo(), 3);
        Due.wholeDue(x, "undone plate", 4, 12);
    }

    private static void anotherPlate() {
        PlateArm x = new PlateArm();
        x.set(0, 1);
        x.set(1, 20);
        x.set(2, 5);
        x.set(3, 1);
        Due.type(x, "abc");
        x.request(0, 0, 0);
        x.request(3, 0, 0);
        x.request(3, 5, 99);
        x.request(9, 5, 99);
        Due.due("pass(5)", x.pass(5), 1);
        Due.wholeDue(x, "old plate", 12, 6, 1, 20, 5, 1, 5, 2, 4, 1, 0, 1, 3, 1, 1, 0, 20, 3);
        x.request(0, 1, 99);
        x.cancel(2);
        x.cancel(3);
        x.pass(1);
        Due.due("plate(7, 9)", x.plate(7, 9), 1);
        Due.wholeDue(x, "new plate", 7, 9, 1, 20, 5, 1, 0, 0, 0, 0, 0, 0, 0, 0, 0, 0, 0, 3);
        Due.armDue(x, "new plate", 0, 0, 0, 0, 1, 0);
        Due.due("new plate: logged(0, 0)", x.logged(0, 0), -1);
        Due.due("new plate: requestAt(0)", x.requestAt(0), -1);
        Due.due("new plate: first number", x.request(6, 8, 9), 0);
        Due.due("undo()", x.undo(), 3);
        Due.due("undo() of plate", x.undo(), 2);
        Due.wholeDue(x, "old plate again", 12, 6, 1, 20, 5, 1, 6, 1, 5, 1, 0, 1, 3, 1, 1, 1, 20, 3);
        Due.armDue(x, "old plate again", 3, 0, 19, 1, 2, 0);
        Due.loggedDue(x, 0, 0, 0, 0, 0, 0);
        Due.requestDue(x, 4, 0, 1, 99, 5, 3, 0);
    }

    private static void plateWhileItMoves() {
        PlateArm x = new PlateArm();
        x.set(1, 20);
        x.set(2, 5);
        x.request(0, 1, 0);
        x.pass(2);
        x.request(9, 0, 99);
        x.pass(3);
        Due.armDue(x, "moves", 3, 1, 1, 0, 1, 5);
        Due.due("late", x.whole(10), 1);
        x.plate(12, 6);
        Due.armDue(x, "another plate", 0, 0, 0, 0, 1, 0);
        Due.wholeDue(x, "another plate", 12, 6, 0, 20, 5, 0, 0, 0, 0, 0, 0, 0, 0, 0, 0, 0, 0, 0);
        Due.due("request(0, 0, 0)", x.request(0, 0, 0), 0);
        Due.due("pass(1)", x.pass(1), 1);
    }

    private static void request() {
        PlateArm x = new PlateArm();
        int[][] wrong = {{-1, 0, 0}, {12, 0, 0}, {0, -1, 0}, {0, 6, 0}, {0, 0, -1}, {0, 0, 10000},
            {Integer.MAX_VALUE, 0, 0}, {0, Integer.MIN_VALUE, 0}, {0, 0, Integer.MAX_VALUE}};
        for (int[] w : wrong) {
            Due.refused(x, ARGUMENT, "request(" + w[0] + ", " + w[1] + ", " + w[2] + ")",
                    () -> x.request(w[0], w[1], w[2]));
        }
        Due.throwsDue(STATE, "undo() behind refusals", x::undo);
        Due.due("request(11, 5, 9999)", x.request(11, 5, 9999), 0);
        Due.due("request(0, 0, 0)", x.request(0, 0, 0), 1);
        Due.requestDue(x, 0, 11, 5, 9999, 0, 11, 0);
        Due.requestDue(x, 1, 0, 0, 0, 0, 0, 0);
        x.pass(2);
        Due.due("number behind a reading", x.request(4, 4, 4), 2);
        Due.requestDue(x, 2, 4, 4, 4, 2, 2, 0);
        Due.due("undo() of request", x.undo(), 3);
        Due.due("number behind undo()", x.request(5, 5, 5), 2);
        x.plate(4, 3);
        Due.throwsDue(ARGUMENT, "request(4, 0, 0)", () -> x.request(4, 0, 0));
        Due.throwsDue(ARGUMENT, "request(0, 3, 0)", () -> x.request(0, 3, 0));
        Due.due("request(3, 2, 0)", x.request(3, 2, 0), 0);
        x.plate(24, 12);
        Due.due("request(23, 11, 0)", x.request(23, 11, 0), 0);
    }

    private static void twelveRequests() {
        PlateArm x = new PlateArm();
        for (int i = 0; i < 12; i++) {
            Due.due("request no. " + i, x.request(i, 0, 9), i);
        }
        Due.refused(x, STATE, "thirteenth request", () -> x.request(0, 0, 0));
        Due.refused(x, ARGUMENT, "thirteenth request, wrong", () -> x.request(12, 0, 0));
        x.cancel(5);
        Due.due("twelfth again", x.request(5, 0, 9), 12);
        Due.refused(x, STATE, "thirteenth again", () -> x.request(0, 0, 0));
    }

    private static void cancel() {
        PlateArm x = new PlateArm();
        Due.refused(x, INDEX, "cancel(0) without requests", () -> x.cancel(0));
        x.request(5, 0, 9);
        x.pass(3);
        x.request(6, 0, 9);
        x.request(7, 0, 9);
        x.pass(1);
        Due.refused(x, INDEX, "cancel(3)", () -> x.cancel(3));
        Due.refused(x, INDEX, "cancel(-1)", () -> x.cancel(-1));
        Due.refused(x, INDEX, "cancel(MAX)", () -> x.cancel(Integer.MAX_VALUE));
        Due.due("cancel(1)", x.cancel(1), 1);
        Due.due("requestAt(1)", x.requestAt(1), 2);
        Due.requestDue(x, 2, 7, 0, 9, 3, 3, 0);
        Due.refused(x, INDEX, "cancel(1) again", () -> x.cancel(1));
        Due.due("cancel(0)", x.cancel(0), 4);
        Due.due("cancel(2)", x.cancel(2), 1);
        Due.due("number behind cancel", x.request(0, 0, 0), 3);
        x.undo();
        x.undo();
        Due.due("requestAt(0) behind undo() of cancel", x.requestAt(0), 2);
        goneOtherwise();
    }

    private static void goneOtherwise() {
        PlateArm x = new PlateArm();
        x.set(3, 1);
        x.request(0, 0, 0);
        x.request(0, 5, 0);
        x.pass(1);
        Due.refused(x, INDEX, "cancel(0), which was read", () -> x.cancel(0));
        x.pass(2);
        Due.refused(x, INDEX, "cancel(1), which was given up", () -> x.cancel(1));
    }

    private static void set() {
        PlateArm x = new PlateArm();
        int[] least = {0, 0, 5, 0};
        int[] most = {3, 20, 200, 100};
        int[] first = {0, 3, 30, 0};
        for (int w = 0; w < 4; w++) {
            int what = w;
            Due.refused(x, ARGUMENT, "set(" + w + ", too low)", () -> x.set(what, least[what] - 1));
            Due.refused(x, ARGUMENT, "set(" + w + ", too high)", () -> x.set(what, most[what] + 1));
            Due.refused(x, ARGUMENT, "set(" + w + ", MIN)", () -> x.set(what, Integer.MIN_VALUE));
            Due.refused(x, ARGUMENT, "set(" + w + ", MAX)", () -> x.set(what, Integer.MAX_VALUE));
            Due.due("set(" + w + ", most)", x.set(w, most[w]), first[w]);
            Due.due("whole(2 + " + w + ")", x.whole(2 + w), most[w]);
            Due.due("set(" + w + ", least)", x.set(w, least[w]), most[w]);
            Due.due("set(" + w + ", least) again", x.set(w, least[w]), least[w]);
            Due.due("whole(2 + " + w + ")", x.whole(2 + w), least[w]);
        }
        Due.refused(x, ARGUMENT, "set(4, 0)", () -> x.set(4, 0));
        Due.refused(x, ARGUMENT, "set(-1, 0)", () -> x.set(-1, 0));
        x.undo();
        x.undo();
        Due.due("patience behind undo()", x.whole(5), 100);
    }

    private static void pass() {
        PlateArm x = new PlateArm();
        for (int wrong : new int[] {0, -1, 100, Integer.MIN_VALUE, Integer.MAX_VALUE}) {
            Due.refused(x, ARGUMENT, "pass(" + wrong + ")", () -> x.pass(wrong));
        }
        x.request(0, 3, 9);
        x.request(0, 4, 9);
        x.request(0, 2, 9);
        Due.due("pass(1)", x.pass(1), 0);
        Due.due("pass(3)", x.pass(3), 2);
        Due.due("pass(99)", x.pass(99), 1);
        Due.due("tick", x.whole(6), 103);
        Due.due("sector", x.arm(5), 1);
        Due.due("undo() of pass", x.undo(), 3);
        Due.due("tick behind undo()", x.whole(6), 4);
    }

    private static void aTrip() {
        PlateArm x = new PlateArm();
        x.request(2, 0, 6);
        x.pass(1);
        Due.armDue(x, "started", 1, 1, 1, 0, 1, 1);
        x.pass(1);
        Due.armDue(x, "stepped", 2, 1, 1, 0, 1, 2);
        x.pass(1);
        Due.armDue(x, "braked", 2, 0, 3, 0, 1, 3);
        Due.due("pass(3)", x.pass(3), 0);
        Due.due("pass(1)", x.pass(1), 1);
        Due.armDue(x, "read", 2, 0, 0, 0, 1, 1);
        Due.loggedDue(x, 0, 0, 2, 0, 6, 0);
        Due.wholeDue(x, "read", 12, 6, 0, 3, 30, 0, 7, 0, 1, 1, 0, 0, 2, 1, 1, 0, 3, 0);
        x.request(1, 0, 99);
        x.pass(1);
        Due.armDue(x, "started down", 1, 2, 1, 0, 1, 2);
        x.pass(1);
        Due.armDue(x, "braked at once", 1, 0, 3, 0, 1, 3);
    }

    private static void aRest() {
        PlateArm x = new PlateArm();
        x.set(1, 6);
        x.set(2, 5);
        x.request(2, 3, 99);
        x.request(0, 0, 99);
        x.pass(3);
        Due.armDue(x, "braked", 2, 0, 6, 1, 1, 3);
        Due.due("read while it rests", x.pass(1), 1);
        x.pass(2);
        Due.armDue(x, "rests", 2, 0, 3, 1, 1, 0);
        x.pass(1);
        Due.armDue(x, "rested", 2, 0, 2, 0, 1, 1);
        Due.due("rested ticks", x.whole(15), 4);
        x.pass(1);
        Due.armDue(x, "starts", 1, 2, 3, 0, 1, 2);
        x.pass(2);
        Due.armDue(x, "braked again", 0, 0, 8, 1, 1, 4);
        Due.due("finish()", x.finish(), 3);
        Due.armDue(x, "end", 0, 0, 5, 1, 1, 1);
        Due.wholeDue(x, "end", 12, 6, 0, 6, 5, 0, 13, 0, 2, 2, 0, 0, 4, 2, 2, 7, 8, 0);
    }

    /** A rest keeps the arm from starting, not from going on. */
    private static void restWhileMoving() {
        PlateArm x = new PlateArm();
        x.set(1, 20);
        x.set(2, 200);
        x.request(1, 2, 50);
        Due.due("finish()", x.finish(), 3);
        Due.armDue(x, "hot", 1, 0, 19, 0, 1, 3);
        x.request(5, 0, 99);
        x.pass(1);
        Due.armDue(x, "started", 2, 1, 20, 0, 1, 4);
        x.set(2, 20);
        Due.due("a setting alone makes no rest", x.arm(3), 0);
        x.pass(1);
        Due.armDue(x, "rests and moves", 3, 1, 20, 1, 1, 5);
        x.pass(1);
        Due.armDue(x, "moves on", 4, 1, 20, 1, 1, 0);
        Due.due("rested ticks", x.whole(15), 1);
        x.pass(2);
        Due.armDue(x, "braked", 5, 0, 39, 1, 1, 2);
        Due.due("rested ticks", x.whole(15), 3);
    }

    private static void limitAndHalf() {
        PlateArm x = new PlateArm();
        x.set(1, 7);
        x.set(2, 7);
        x.request(1, 5, 99);
        x.pass(2);
        Due.armDue(x, "at the limit", 1, 0, 7, 1, 1, 2);
        x.pass(3);
        Due.armDue(x, "above half", 1, 0, 4, 1, 1, 5);
        x.pass(1);
        Due.armDue(x, "at half, rounded down", 1, 0, 3, 0, 1, 0);
        x.undo();
        x.undo();
        x.undo();
        x.set(2, 8);
        x.pass(2);
        Due.armDue(x, "below the limit", 1, 0, 7, 0, 1, 2);
        x.set(2, 7);
        x.pass(1);
        Due.armDue(x, "below the limit still", 1, 0, 6, 0, 1, 3);
    }

    private static void nothingIsReadOnTheWay() {
        PlateArm x = new PlateArm();
        x.request(3, 3, 99);
        x.request(0, 0, 99);
        x.request(1, 1, 99);
        x.request(2, 2, 99);
        Due.due("starting, moving, braking", x.pass(4), 0);
        Due.armDue(x, "braked", 3, 0, 3, 0, 1, 4);
        Due.due("waiting", x.pass(5), 0);
        Due.due("behind a turn", x.pass(1), 1);
        Due.loggedDue(x, 0, 0, 3, 3, 9, 0);
    }

    private static void late() {
        PlateArm x = new PlateArm();
        x.request(0, 1, 1);
        x.request(0, 2, 1);
        x.pass(3);
        Due.loggedDue(x, 1, 0, 0, 1, 1, 0);
        Due.loggedDue(x, 0, 1, 0, 2, 2, 1);
        Due.due("late in all", x.whole(10), 1);
        Due.due("read in all", x.whole(9), 2);
    }

    private static void givenUp() {
        PlateArm x = new PlateArm();
        x.request(0, 5, 1);
        x.request(0, 5, 2);
        x.request(0, 5, 0);
        x.pass(4);
        Due.due("none is given up without patience", x.whole(7), 3);
        x.undo();
        x.set(3, 2);
        x.pass(2);
        Due.due("patience 2, tick 2", x.whole(7), 3);
        x.pass(1);
        Due.due("patience 2, tick 3", x.whole(7), 3);
        Due.due("pass(1)", x.pass(1), 0);
        Due.due("patience 2, tick 4", x.whole(7), 2);
        Due.due("requestAt(0)", x.requestAt(0), 0);
        Due.due("requestAt(1)", x.requestAt(1), 1);
        Due.due("pass(1)", x.pass(1), 0);
        Due.due("patience 2, tick 5", x.whole(11), 2);
        Due.due("read before it is given up", x.pass(1), 1);
        Due.loggedDue(x, 0, 1, 0, 5, 5, 1);
        Due.due("given up in all", x.whole(11), 2);
        Due.due("late in all", x.whole(10), 1);
    }

    private static void manyAtOnce() {
        PlateArm x = new PlateArm();
        for (int i = 0; i < 12; i++) {
            x.request(i == 4 ? 1 : 0, i == 7 ? 5 : 3, i);
        }
        Due.due("pass(4)", x.pass(4), 10);
        for (int back = 0; back < 4; back++) {
            Due.loggedDue(x, back, 11 - back, 0, 3, 3, 0);
        }
        Due.loggedDue(x, 4, 6, 0, 3, 3, 0);
        Due.loggedDue(x, 6, 3, 0, 3, 3, 0);
        Due.loggedDue(x, 7, 2, 0, 3, 3, 1);
        Due.loggedDue(x, 9, 0, 0, 3, 3, 1);
        Due.due("late in all", x.whole(10), 3);
        Due.due("requestAt(0)", x.requestAt(0), 4);
        Due.due("requestAt(1)", x.requestAt(1), 7);
        Due.requestDue(x, 7, 0, 5, 7, 0, 0, 0);
    }

    private static void brakesWithoutTarget() {
        PlateArm x = new PlateArm();
        x.request(9, 0, 99);
        x.pass(2);
        x.cancel(0);
        x.pass(1);
        Due.armDue(x, "braked", 2, 0, 3, 0, 1, 3);
        Due.due("brakings", x.whole(14), 1);
        x.pass(1);
        Due.armDue(x, "still", 2, 0, 2, 0, 1, 4);
        x.request(9, 0, 99);
        x.pass(1);
        x.request(0, 0, 99);
        x.cancel(1);
        x.pass(1);
        Due.armDue(x, "braked before it turns", 3, 0, 5, 0, 1, 0);
        x.pass(1);
        Due.armDue(x, "turned", 2, 2, 6, 0, 1, 1);
    }

    private static PlateArm onTrackFive() {
        PlateArm x = new PlateArm();
        x.request(5, 0, 99);
        Due.due("to track 5: finish()", x.finish(), 7);
        return x;
    }

    private static void ways() {
        PlateArm x = onTrackFive();
        x.request(2, 0, 90);
        x.request(7, 0, 50);
        x.request(8, 0, 20);
        x.request(3, 0, 20);
        int[] chosen = {1, 2, 2, 3};
        int[] direction = {2, 1, 1, 1};
        for (int way = 0; way < 4; way++) {
            Due.due("target(" + way + ")", x.target(way), chosen[way]);
            x.set(0, way);
            x.pass(1);
            Due.due("direction by way " + way, x.arm(1), direction[way]);
            x.undo();
            x.undo();
        }
        x.request(7, 0, 10);
        x.request(5, 3, 95);
        Due.due("target(1) on the track", x.target(1), 6);
        Due.due("target(2) on the track", x.target(2), 6);
        Due.due("target(3) earliest", x.target(3), 5);
        x.cancel(6);
        Due.due("target(1), lowest of a track", x.target(1), 2);
        x.cancel(2);
        Due.due("target(2), lowest of two sides", x.target(2), 4);
        Due.due("target(1), next of the track", x.target(1), 5);
    }

    private static void sweep() {
        PlateArm x = onTrackFive();
        x.request(2, 0, 99);
        x.pass(1);
        Due.due("another way does not turn the sweep", x.arm(4), 1);
        x.undo();
        x.set(0, 1);
        Due.due("target(1) behind", x.target(1), 1);
        Due.due("a question does not turn the sweep", x.arm(4), 1);
        x.pass(1);
        Due.armDue(x, "turned", 4, 2, 3, 0, 2, 2);
        x.request(5, 0, 99);
        x.request(0, 0, 99);
        Due.due("target(1) ahead and down", x.target(1), 1);
        x.cancel(1);
        Due.due("target(1) ahead, though farther", x.target(1), 3);
        x.cancel(3);
        x.pass(1);
        Due.armDue(x, "turned again", 4, 0, 5, 0, 1, 3);
        x.cancel(2);
        x.pass(5);
        Due.due("without requests it does not turn", x.arm(4), 1);
    }

    private static void lastTick() {
        PlateArm x = new PlateArm();
        for (int i = 0; i < 101; i++) {
            x.pass(i < 100 ? 99 : 98);
        }
        Due.due("tick", x.whole(6), 9998);
        Due.refused(x, STATE, "pass(2) at 9998", () -> x.pass(2));
        Due.refused(x, STATE, "pass(99) at 9998", () -> x.pass(99));
        x.request(0, 3, 9999);
        Due.refused(x, STATE, "finish() of two ticks at 9998", x::finish);
        x.request(0, 2, 9999);
        x.cancel(0);
        Due.due("finish() of one tick at 9998", x.finish(), 1);
        Due.due("tick", x.whole(6), 9999);
        Due.refused(x, STATE, "pass(1) at 9999", () -> x.pass(1));
        Due.refused(x, ARGUMENT, "pass(0) at 9999", () -> x.pass(0));
        Due.refused(x, ARGUMENT, "pass(100) at 9999", () -> x.pass(100));
        Due.due("finish() without requests at 9999", x.finish(), 0);
        x.request(0, 3, 9999);
        Due.refused(x, STATE, "finish() at 9999", x::finish);
        beyondTheLastTick(x);
    }

    private static void beyondTheLastTick(PlateArm x) {
        x.request(1, 0, 9999);
        Due.due("readIn(2) at 9999", x.readIn(2), 9999);
        // 9999 reads; 10000 starts, 10001 brakes; 10002 has the sector 0.
        Due.due("readIn(3) beyond 9999", x.readIn(3), 10002);
        Due.due("finishBy(2, 0) beyond 9999", x.finishBy(2, 0), 4);
        Due.due("finishBy(2, 2) beyond 9999", x.finishBy(2, 2), 1);
        Due.due("heatIn(3) beyond 9999", x.heatIn(3), 3);
        Due.due("heatIn(99) beyond 9999", x.heatIn(99), 0);
        Due.due("bestWay() at 9999", x.bestWay(), 0);
    }

    private static void finish() {
        PlateArm x = new PlateArm();
        Due.due("finish() without requests", x.finish(), 0);
        Due.due("tick", x.whole(6), 0);
        Due.due("undo() of finish", x.undo(), 0);
        x.request(0, 2, 1);
        x.request(0, 4, 9);
        Due.due("finish()", x.finish(), 5);
        Due.wholeDue(x, "finished", 12, 6, 0, 3, 30, 0, 5, 0, 2, 2, 1, 0, 0, 0, 0, 0, 0, 0);
        x.undo();
        x.set(3, 1);
        Due.due("finish() with one given up", x.finish(), 5);
        Due.wholeDue(x, "finished", 12, 6, 0, 3, 30, 1, 5, 0, 2, 2, 1, 0, 0, 0, 0, 0, 0, 0);
        x.undo();
        x.request(9, 0, 1);
        Due.due("finish() by giving up", x.finish(), 5);
        Due.due("given up", x.whole(11), 1);
        Due.due("undo() of finish", x.undo(), 3);
        Due.due("tick behind undo()", x.whole(6), 0);
    }

    /** Trips of many tracks each, with rests between them. */
    static PlateArm moreThan500() {
        PlateArm x = new PlateArm();
        x.plate(24, 3);
        x.set(1, 20);
        x.set(2, 200);
        for (int i = 0; i < 9; i++) {
            x.request(i % 2 == 0 ? 1 : 0, 0, 9999);
            x.finish();
        }
        x.set(2, 5);
        for (int i = 0; i < 6; i++) {
            x.request(23 - i, 0, 9999);
            x.request(i, 0, 9999);
        }
        return x;
    }

    private static void finishStopsAt500() {
        PlateArm x = moreThan500();
        int tick = x.whole(6);
        Due.due("readIn(20), too late", x.readIn(20), -1);
        Due.due("finishBy(0, 0)", x.finishBy(0, 0), 500);
        int read = x.finishBy(0, 1);
        Due.due("finish()", x.finish(), 500);
        Due.due("tick", x.whole(6), tick + 500);
        Due.due("left", x.whole(7), 12 - read);
        Due.due("some are left", x.whole(7) > 0 && read > 0 ? 1 : 0, 1);
        Due.due("the last one is left", x.requestOf(20, 0), 5);
    }
}
