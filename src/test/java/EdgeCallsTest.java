/** The boundary cases of the promises 1 to 7, sentence by sentence. */
final class EdgeCallsTest {
    private static final Class<IllegalArgumentException> ARGUMENT = IllegalArgumentException.class;
    private static final Class<IllegalStateException> STATE = IllegalStateException.class;
    private static final Class<IndexOutOfBoundsException> INDEX = IndexOutOfBoundsException.class;
    private static final int FAR = 9999;
    private static final int MIN = Integer.MIN_VALUE;
    private static final int MAX = Integer.MAX_VALUE;

    public static void main(String[] args) {
        newObject();
        plateRange();
        plateBegins();
        plateKeeps();
        plateCounts();
        requestRange();
        requestFollowsThePlate();
        requestWhenFull();
        requestNumbers();
        cancelOfNone();
        cancelOfGone();
        cancelAge();
        setRanges();
        setPrevious();
        passRange();
        passToTheLastTick();
        passCounts();
        finishOfNone();
        finishUntilAllAreGone();
        finishOf500();
        finishToTheLastTick();
        finishOf500ToTheLastTick();
        Due.end("EdgeCallsTest");
    }

    private static void newObject() {
        Due.sentence("Promise 1", "Creates a plate with 12 tracks and 6 sectors at tick 0, without requests");
        PlateArm x = new PlateArm();
        Due.wholeDue(x, "new", 12, 6, 0, 3, 30, 0, 0, 0, 0, 0, 0, 0, 0, 0, 0, 0, 0, 0);
        Due.armDue(x, "new", 0, 0, 0, 0, 1, 0);
        Due.due("requestAt(0)", x.requestAt(0), -1);
        Due.refused(x, INDEX, "requestOf(0, 0)", () -> x.requestOf(0, 0));
        Due.sentence("Promise 1", "an empty log, an empty command text and an empty undo stack");
        Due.loggedDue(x, 0, -1, -1, -1, -1, -1);
        Due.refused(x, STATE, "undo()", x::undo);
        Due.due("runCommands()", x.runCommands(), 0);
        Due.due("clearCommands()", x.clearCommands(), 0);
        PlateArm y = new PlateArm();
        Due.due("type(32), the first byte", y.type(32), 1);
        Due.due("the first request", y.request(0, 0, 0), 0);
        Due.due("the only saved state", y.undo(), 0);
    }

    private static void plateRange() {
        Due.sentence("Promise 2", "tracks: 4 to 24; sectors: 3 to 12; throws IllegalArgumentException");
        PlateArm x = new PlateArm();
        x.request(5, 5, 50);
        x.pass(2);
        for (int tracks : new int[] {3, 25, 0, -4, MIN, MAX}) {
            Due.refused(x, ARGUMENT, "plate(" + tracks + ", 3)", () -> x.plate(tracks, 3));
        }
        for (int sectors : new int[] {2, 13, 0, -3, MIN, MAX}) {
            Due.refused(x, ARGUMENT, "plate(4, " + sectors + ")", () -> x.plate(4, sectors));
        }
        Due.refused(x, ARGUMENT, "plate(3, 13)", () -> x.plate(3, 13));
        for (int tracks : new int[] {4, 5, 23, 24}) {
            for (int sectors : new int[] {3, 4, 11, 12}) {
                x.plate(tracks, sectors);
                Due.wholeDue(x, "plate(" + tracks + ", " + sectors + ")", tracks, sectors);
            }
        }
    }

    /** A rest over a track, a sweep down, a heat, a late reading, a request that is left and one given up. */
    private static PlateArm used() {
        PlateArm x = new PlateArm();
        x.set(0, 1);
        x.set(1, 20);
        x.set(2, 5);
        x.set(3, 1);
        x.request(2, 3, FAR);
        x.pass(4);
        x.request(1, 4, FAR);
        Due.passTo(x, 24);
        x.request(1, 1, 24);
        x.request(11, 0, 23);
        x.request(11, 1, FAR);
        x.request(0, 5, 0);
        x.pass(3);
        Due.type(x, "set 1 9; ");
        return x;
    }

    private static void plateBegins() {
        Due.sentence("Promise 2", "Puts another plate in: all is as at the beginning");
        PlateArm x = used();
        // 0 starts, 1 steps, 2 brakes (heat 20), 3 reads, 4 turns the sweep, 20 ends the rest (heat 2);
        // 21 starts, 22 brakes (heat 22), 24 gives up, 25 reads one and gives up one.
        Due.armDue(x, "before", 1, 0, 18, 1, 2, 3);
        Due.wholeDue(x, "before", 12, 6, 1, 20, 5, 1, 27, 2, 6, 2, 1, 2, 3, 2, 2, 22, 22, 9);
        Due.due("plate(24, 7)", x.plate(24, 7), 2);
        Due.wholeDue(x, "behind", 24, 7, 1, 20, 5, 1, 0, 0, 0, 0, 0, 0, 0, 0, 0, 0, 0, 9);
        Due.armDue(x, "behind", 0, 0, 0, 0, 1, 0);
        Due.due("requestAt(0)", x.requestAt(0), -1);
        Due.loggedDue(x, 0, -1, -1, -1, -1, -1);
        Due.due("the first number", x.request(23, 6, 0), 0);
        PlateArm y = used();
        y.plate(12, 6);
        Due.armDue(y, "behind a plate of the same size", 0, 0, 0, 0, 1, 0);
        Due.wholeDue(y, "behind it", 12, 6, 1, 20, 5, 1, 0, 0, 0, 0, 0, 0, 0, 0, 0, 0, 0, 9);
        PlateArm moving = new PlateArm();
        moving.request(11, 0, FAR);
        moving.pass(9);
        Due.armDue(moving, "moving", 9, 1, 1, 0, 1, 3);
        moving.plate(4, 3);
        Due.armDue(moving, "behind another plate", 0, 0, 0, 0, 1, 0);
        moving.pass(1);
        Due.armDue(moving, "a tick behind it", 0, 0, 0, 0, 1, 1);
    }

    private static void plateKeeps() {
        Due.sentence("Promise 2", "but the settings, the command text and the undo stack");
        PlateArm x = used();
        x.undo();
        x.undo();
        long before = x.digest();
        x.plate(4, 3);
        Due.wholeDue(x, "the settings", 4, 3, 1, 20, 5, 1);
        Due.due("the text", x.runCommands(), 1);
        Due.due("undo() of the run", x.undo(), 3);
        Due.due("undo() of the plate", x.undo(), 2);
        Due.due("the state before", x.digest(), before);
        Due.due("undo() of what was before", x.undo(), 1);
    }

    private static void plateCounts() {
        Due.sentence("Promise 2", "Returns the number of requests that are gone by it");
        PlateArm x = new PlateArm();
        Due.due("of none", x.plate(12, 6), 0);
        x.request(0, 0, 0);
        x.request(0, 1, 0);
        x.pass(1);
        Due.due("of one, and one read", x.plate(12, 6), 1);
        for (int i = 0; i < 12; i++) {
            x.request(i, 0, 0);
        }
        Due.due("of twelve", x.plate(12, 6), 12);
        Due.due("of none again", x.plate(12, 6), 0);
    }

    private static void requestRange() {
        Due.sentence("Promise 3", "a track of the plate; a sector of the plate; 0 to 9999; throws "
                + "IllegalArgumentException");
        PlateArm x = new PlateArm();
        for (int track : new int[] {-1, 12, MIN, MAX}) {
            Due.refused(x, ARGUMENT, "request(" + track + ", 0, 0)", () -> x.request(track, 0, 0));
        }
        for (int sector : new int[] {-1, 6, MIN, MAX}) {
            Due.refused(x, ARGUMENT, "request(0, " + sector + ", 0)", () -> x.request(0, sector, 0));
        }
        for (int deadline : new int[] {-1, 10000, MIN, MAX}) {
            Due.refused(x, ARGUMENT, "request(0, 0, " + deadline + ")", () -> x.request(0, 0, deadline));
        }
        Due.refused(x, STATE, "undo() behind refusals", x::undo);
        x.request(0, 0, 0);
        x.request(11, 5, 9999);
        x.request(1, 4, 9998);
        x.request(10, 1, 1);
        Due.requestDue(x, 0, 0, 0, 0, 0, 0, 0);
        Due.requestDue(x, 1, 11, 5, 9999, 0, 11, 0);
        Due.requestDue(x, 2, 1, 4, 9998, 0, 1, 0);
        Due.requestDue(x, 3, 10, 1, 1, 0, 10, 0);
        Due.passTo(x, 9999);
        int number = x.request(0, 0, 0);
        Due.requestDue(x, number, 0, 0, 0, 9999, x.arm(0), 1);
    }

    private static void requestFollowsThePlate() {
        Due.sentence("Promise 3", "a track of the plate; a sector of the plate");
        int[][] plates = {{4, 3}, {24, 12}, {4, 12}, {24, 3}};
        for (int[] p : plates) {
            PlateArm x = new PlateArm();
            x.plate(p[0], p[1]);
            Due.due("the last track and sector", x.request(p[0] - 1, p[1] - 1, 0), 0);
            Due.refused(x, ARGUMENT, "the track behind", () -> x.request(p[0], 0, 0));
            Due.refused(x, ARGUMENT, "the sector behind", () -> x.request(0, p[1], 0));
            x.undo();
            x.undo();
            Due.refused(x, ARGUMENT, "track 12 of the first plate", () -> x.request(12, 0, 0));
            Due.refused(x, ARGUMENT, "sector 6 of the first plate", () -> x.request(0, 6, 0));
            Due.due("the last ones of the first plate", x.request(11, 5, 0), 0);
        }
    }

    private static void requestWhenFull() {
        Due.sentence("Promise 3", "Throws IllegalStateException if there are 12 requests");
        PlateArm x = new PlateArm();
        for (int i = 0; i < 11; i++) {
            x.request(i, 0, 0);
        }
        Due.due("the 12th", x.request(11, 5, FAR), 11);
        Due.refused(x, STATE, "the 13th", () -> x.request(0, 0, 0));
        Due.refused(x, STATE, "the 13th, like another", () -> x.request(11, 5, FAR));
        Due.refused(x, ARGUMENT, "the 13th with the track 12", () -> x.request(12, 0, 0));
        Due.refused(x, ARGUMENT, "the 13th with the sector 6", () -> x.request(0, 6, 0));
        Due.refused(x, ARGUMENT, "the 13th with the deadline 10000", () -> x.request(0, 0, 10000));
        x.undo();
        Due.due("the 12th again", x.request(11, 5, FAR), 11);
    }

    private static void requestNumbers() {
        Due.sentence("Promise 3", "Returns its number");
        PlateArm x = new PlateArm();
        for (int i = 0; i < 60; i++) {
            Due.due("request no. " + i, x.request(3, 0, FAR), i);
            Due.due("requestAt(0)", x.requestAt(0), i);
            x.cancel(i);
        }
    }

    private static void cancelOfNone() {
        Due.sentence("Promise 4", "Throws IndexOutOfBoundsException if there is no such request");
        PlateArm x = new PlateArm();
        for (int request : new int[] {0, -1, 1, 11, MIN, MAX}) {
            Due.refused(x, INDEX, "cancel(" + request + ") of none", () -> x.cancel(request));
        }
        Due.refused(x, STATE, "undo() behind refusals", x::undo);
        x.request(3, 0, FAR);
        x.request(4, 0, FAR);
        for (int request : new int[] {-1, 2, 12, MIN, MAX}) {
            Due.refused(x, INDEX, "cancel(" + request + ") of two", () -> x.cancel(request));
        }
        Due.due("cancel(1), the last number", x.cancel(1), 0);
        Due.due("cancel(0), the first number", x.cancel(0), 0);
        Due.due("requests", x.whole(7), 0);
    }

    private static void cancelOfGone() {
        Due.sentence("Promise 4", "(it was read, cancelled, or given up)");
        PlateArm x = new PlateArm();
        x.set(3, 1);
        x.request(0, 0, 0);
        x.request(0, 1, FAR);
        x.request(0, 5, 0);
        x.cancel(1);
        x.pass(3);
        Due.due("left", x.whole(7), 0);
        for (int request = 0; request < 3; request++) {
            int gone = request;
            Due.refused(x, INDEX, "cancel(" + gone + ")", () -> x.cancel(gone));
        }
        x.request(0, 0, 0);
        x.plate(12, 6);
        Due.refused(x, INDEX, "cancel(3) of the plate before", () -> x.cancel(3));
    }

    private static void cancelAge() {
        Due.sentence("Promise 4", "Returns how many ticks ago it was told");
        PlateArm x = hot(0);
        x.set(2, 5);
        x.request(11, 0, 0);
        x.request(11, 0, 0);
        Due.due("in its own tick", x.cancel(11), 0);
        x.pass(1);
        x.request(11, 0, 0);
        Due.due("in the next tick", x.cancel(10), 1);
        x.pass(99);
        x.pass(98);
        Due.armDue(x, "at the end of the rest", 0, 0, 2, 0, 1, 2);
        Due.due("in the tick 218", x.cancel(12), 197);
    }

    private static void setRanges() {
        Due.sentence("Promise 5", "what: 0 way, 1 brake, 2 limit, 3 patience; value: in its range");
        int[] least = {0, 0, 5, 0};
        int[] most = {3, 20, 200, 100};
        for (int i = 0; i < 4; i++) {
            int what = i;
            PlateArm x = new PlateArm();
            for (int value : new int[] {least[i] - 1, most[i] + 1, MIN, MAX}) {
                Due.refused(x, ARGUMENT, "set(" + i + ", " + value + ")", () -> x.set(what, value));
            }
            for (int value : new int[] {least[i], least[i] + 1, most[i] - 1, most[i]}) {
                x.set(i, value);
                Due.due("whole(" + (2 + i) + ")", x.whole(2 + i), value);
            }
        }
        PlateArm x = new PlateArm();
        for (int what : new int[] {-1, 4, MIN, MAX}) {
            for (int value : new int[] {0, 5, -1}) {
                Due.refused(x, ARGUMENT, "set(" + what + ", " + value + ")", () -> x.set(what, value));
            }
        }
    }

    private static void setPrevious() {
        Due.sentence("Promise 5", "Returns the previous value");
        PlateArm x = new PlateArm();
        int[] first = {0, 3, 30, 0};
        for (int what = 0; what < 4; what++) {
            Due.due("the value as at first", x.set(what, first[what]), first[what]);
            Due.due("the same value", x.set(what, what == 0 ? 3 : 20), first[what]);
            Due.due("another value", x.set(what, first[what]), what == 0 ? 3 : 20);
            Due.due("undo()", x.undo() > 1 ? 1 : 0, 1);
            Due.due("the value before", x.set(what, first[what]), what == 0 ? 3 : 20);
        }
        Due.wholeDue(x, "as at first", 12, 6, 0, 3, 30, 0);
    }

    private static void passRange() {
        Due.sentence("Promise 6", "ticks: 1 to 99; throws IllegalArgumentException");
        PlateArm x = new PlateArm();
        x.request(5, 0, FAR);
        for (int ticks : new int[] {0, -1, 100, MIN, MAX}) {
            Due.refused(x, ARGUMENT, "pass(" + ticks + ")", () -> x.pass(ticks));
        }
        x.pass(1);
        Due.due("tick behind pass(1)", x.whole(6), 1);
        x.pass(99);
        Due.due("tick behind pass(99)", x.whole(6), 100);
        x.pass(98);
        Due.due("tick behind pass(98)", x.whole(6), 198);
    }

    private static void passToTheLastTick() {
        Due.sentence("Promise 6", "Throws IllegalStateException if the tick would be greater than 9999");
        PlateArm x = new PlateArm();
        Due.passTo(x, 9900);
        Due.due("pass(99) to 9999", x.pass(99), 0);
        Due.due("tick", x.whole(6), 9999);
        Due.refused(x, STATE, "pass(1) at 9999", () -> x.pass(1));
        Due.refused(x, STATE, "pass(99) at 9999", () -> x.pass(99));
        Due.refused(x, ARGUMENT, "pass(0) at 9999", () -> x.pass(0));
        Due.refused(x, ARGUMENT, "pass(100) at 9999", () -> x.pass(100));
        Due.refused(x, ARGUMENT, "pass(MAX) at 9999", () -> x.pass(MAX));
        x.undo();
        x.pass(1);
        Due.refused(x, STATE, "pass(99) at 9901", () -> x.pass(99));
        x.pass(97);
        Due.refused(x, STATE, "pass(2) at 9998", () -> x.pass(2));
        Due.due("pass(1) to 9999", x.pass(1), 0);
        Due.due("sector", x.arm(5), 9999 % 6);
    }

    private static void passCounts() {
        Due.sentence("Promise 6", "Returns the number of requests that are read in them");
        PlateArm x = new PlateArm();
        Due.due("without requests", x.pass(6), 0);
        x.set(3, 1);
        x.request(0, 5, 3);
        x.request(11, 5, 3);
        x.request(0, 0, 0);
        x.request(0, 1, 0);
        // 6 reads 2, and gives up all the others.
        Due.due("one is read, three are given up", x.pass(1), 1);
        Due.due("given up", x.whole(11), 3);
        x.set(3, 0);
        Due.passTo(x, 12);
        for (int i = 0; i < 12; i++) {
            x.request(0, i < 11 ? 2 : 3, FAR);
        }
        Due.due("before the sector", x.pass(2), 0);
        Due.due("eleven at once", x.pass(1), 11);
        Due.due("the last one", x.pass(99), 1);
    }

    private static void finishOfNone() {
        Due.sentence("Promise 7", "until all requests are gone");
        PlateArm x = new PlateArm();
        Due.due("without requests", x.finish(), 0);
        Due.wholeDue(x, "nothing has passed", 12, 6, 0, 3, 30, 0, 0);
        x.request(9, 0, FAR);
        x.pass(3);
        x.cancel(0);
        Due.due("without requests, moving", x.finish(), 0);
        Due.armDue(x, "it still moves", 3, 1, 1, 0, 1, 3);
        Due.due("undo() of nothing", x.undo(), 3);
        Due.passTo(x, 9999);
        Due.due("without requests at 9999", x.finish(), 0);
        Due.due("tick", x.whole(6), 9999);
    }

    private static void finishUntilAllAreGone() {
        Due.sentence("Promise 7", "until all requests are gone");
        PlateArm x = new PlateArm();
        x.request(0, 0, 0);
        Due.due("of one tick", x.finish(), 1);
        x.request(0, 0, FAR);
        x.request(0, 0, FAR);
        Due.due("a turn of the plate", x.finish(), 6);
        x.set(3, 1);
        x.request(9, 0, 8);
        Due.due("given up on the way, in the tick 10", x.finish(), 4);
        Due.armDue(x, "it still moves", 4, 1, 1, 0, 1, 5);
        Due.wholeDue(x, "behind", 12, 6, 0, 3, 30, 1, 11, 0, 4, 3, 0, 1);
    }

    /** Still over the track 0 with the heat 200, the limit 200, the brake 20, at this tick + 20. */
    static PlateArm hot(int tick) {
        PlateArm x = new PlateArm();
        x.plate(24, 12);
        x.set(1, 20);
        x.set(2, 200);
        Due.passTo(x, tick);
        for (int i = 0; i < 10; i++) {
            int request = x.request(1 - i % 2, 0, FAR);
            x.pass(1);
            x.cancel(request);
            x.pass(1);
        }
        Due.armDue(x, "hot", 0, 0, 200, 1);
        return x;
    }

    /** A long rest, and trips from end to end with rests between: 503 ticks from this tick on by the way 0. */
    static PlateArm longTrips(int tick, int lastDeadline) {
        PlateArm x = hot(tick - 20);
        x.set(2, 5);
        // 197 ends the rest (heat 2); each trip of n tracks starts (heat 3), brakes n ticks later (heat 22)
        // and rests for 20 ticks: the last one of 16 tracks starts in 485, brakes in 501, reads in 502.
        for (int i = 0; i < 8; i++) {
            int track = i % 2 == 0 ? 23 - i / 2 : 1 + i / 2;
            x.request(track, (tick + 502) % 12, i < 7 ? FAR : lastDeadline);
        }
        return x;
    }

    private static void finishOf500() {
        Due.sentence("Promise 7", "but 500 at most");
        PlateArm more = longTrips(20, FAR);
        Due.due("finish() of 503", more.finish(), 500);
        Due.wholeDue(more, "one is left", 24, 12, 0, 20, 5, 0, 520, 1, 18, 7);
        Due.due("finish() of the rest", more.finish(), 3);
        PlateArm one = longTrips(20, FAR);
        one.pass(2);
        Due.due("finish() of 501", one.finish(), 500);
        Due.wholeDue(one, "one is left", 24, 12, 0, 20, 5, 0, 522, 1, 18, 7);
        Due.due("finish() of the rest", one.finish(), 1);
        PlateArm just = longTrips(20, FAR);
        just.pass(3);
        Due.due("finish() of 500", just.finish(), 500);
        Due.wholeDue(just, "none is left", 24, 12, 0, 20, 5, 0, 523, 0, 18, 8);
        PlateArm less = longTrips(20, FAR);
        less.pass(4);
        Due.due("finish() of 499", less.finish(), 499);
        Due.wholeDue(less, "none is left", 24, 12, 0, 20, 5, 0, 523, 0, 18, 8);
    }

    private static void finishToTheLastTick() {
        Due.sentence("Promise 7", "Throws IllegalStateException if the tick would be greater than 9999 by "
                + "the ticks that it takes");
        PlateArm x = new PlateArm();
        Due.passTo(x, 9997);
        // The sector 0 is under the arm in 9996 and in 10002, the sector 2 in 9998, 3 in 9999.
        x.request(0, 2, FAR);
        Due.due("to 9999", x.finish(), 2);
        Due.due("tick", x.whole(6), 9999);
        x.undo();
        x.request(0, 3, FAR);
        Due.refused(x, STATE, "finish() to 10000", x::finish);
        Due.due("requests", x.whole(7), 2);
        x.pass(2);
        Due.refused(x, STATE, "finish() at 9999", x::finish);
        Due.due("requests", x.whole(7), 1);
        x.cancel(1);
        Due.due("finish() at 9999 without requests", x.finish(), 0);
    }

    private static void finishOf500ToTheLastTick() {
        Due.sentence("Promise 7", "500 at most .. by the ticks that it takes");
        PlateArm x = longTrips(9499, FAR);
        Due.due("finish() of 503 at 9499", x.finish(), 500);
        Due.wholeDue(x, "at the last tick", 24, 12, 0, 20, 5, 0, 9999, 1, 18, 7);
        Due.refused(x, STATE, "finish() of three more", x::finish);
        PlateArm y = longTrips(9500, FAR);
        Due.refused(y, STATE, "finish() of 503 at 9500", y::finish);
        Due.due("requests", y.whole(7), 8);
        Due.due("tick", y.whole(6), 9500);
    }
}
