/** The boundary cases of the promises 8 to 12, sentence by sentence. */
final class EdgeValuesTest {
    private static final Class<IllegalArgumentException> ARGUMENT = IllegalArgumentException.class;
    private static final Class<IndexOutOfBoundsException> INDEX = IndexOutOfBoundsException.class;
    private static final int FAR = 9999;
    private static final int MIN = Integer.MIN_VALUE;
    private static final int MAX = Integer.MAX_VALUE;

    public static void main(String[] args) {
        requestOfNone();
        requestOfGone();
        requestOfRange();
        requestOfDistance();
        requestOfLateness();
        requestAtRange();
        requestAtByNumber();
        loggedRange();
        loggedNone();
        loggedLate();
        armRange();
        armDirections();
        armRests();
        wholeRange();
        wholeSincePlate();
        wholeRestedTicks();
        wholeGreatestHeat();
        wholeTextLength();
        Due.end("EdgeValuesTest");
    }

    private static void requestOfNone() {
        Due.sentence("Promise 8", "Throws IndexOutOfBoundsException if there is no such request");
        PlateArm x = new PlateArm();
        for (int request : new int[] {0, -1, 1, MIN, MAX}) {
            for (int what : new int[] {0, 5, -1, 6}) {
                Due.refused(x, INDEX, "requestOf(" + request + ", " + what + ")",
                        () -> x.requestOf(request, what));
            }
        }
        x.request(3, 0, FAR);
        x.request(4, 0, FAR);
        for (int request : new int[] {-1, 2, 12, MIN, MAX}) {
            Due.refused(x, INDEX, "requestOf(" + request + ", 0) of two", () -> x.requestOf(request, 0));
            Due.refused(x, INDEX, "requestOf(" + request + ", 6) of two", () -> x.requestOf(request, 6));
        }
        Due.due("the first one", x.requestOf(0, 0), 3);
        Due.due("the last one", x.requestOf(1, 0), 4);
    }

    private static void requestOfGone() {
        Due.sentence("Promise 8", "(it was read, cancelled, or given up)");
        PlateArm x = new PlateArm();
        x.set(3, 1);
        x.request(0, 0, 0);
        x.request(0, 1, FAR);
        x.request(0, 5, 0);
        x.request(0, 5, FAR);
        x.cancel(1);
        x.pass(3);
        for (int request = 0; request < 3; request++) {
            int gone = request;
            Due.refused(x, INDEX, "requestOf(" + gone + ", 0)", () -> x.requestOf(gone, 0));
            Due.refused(x, INDEX, "requestOf(" + gone + ", 6)", () -> x.requestOf(gone, 6));
        }
        Due.requestDue(x, 3, 0, 5, FAR, 0, 0, 0);
    }

    private static void requestOfRange() {
        Due.sentence("Promise 8", "Throws IllegalArgumentException if what is out of range");
        PlateArm x = new PlateArm();
        x.pass(8);
        x.request(11, 5, 7);
        for (int what : new int[] {-1, 6, MIN, MAX}) {
            Due.refused(x, ARGUMENT, "requestOf(0, " + what + ")", () -> x.requestOf(0, what));
        }
        Due.requestDue(x, 0, 11, 5, 7, 8, 11, 1);
    }

    private static void requestOfDistance() {
        Due.sentence("Promise 8", "4 how many tracks it is from the arm (the difference of the numbers)");
        PlateArm x = new PlateArm();
        x.plate(24, 3);
        x.request(23, 2, FAR);
        x.request(0, 1, FAR);
        x.request(1, 0, FAR);
        Due.due("from the first track to the last", x.requestOf(0, 4), 23);
        Due.due("from the first track to itself", x.requestOf(1, 4), 0);
        x.pass(1);
        Due.due("one above the first", x.requestOf(0, 4), 22);
        Due.due("one above it", x.requestOf(1, 4), 1);
        Due.due("over it, moving", x.requestOf(2, 4), 0);
        x.pass(22);
        Due.due("over the last", x.requestOf(0, 4), 0);
        Due.due("from the last to the first", x.requestOf(1, 4), 23);
    }

    private static void requestOfLateness() {
        Due.sentence("Promise 8", "5 1 if the tick is greater than its deadline or 0 if not");
        PlateArm x = new PlateArm();
        x.request(9, 0, 0);
        x.request(9, 0, 1);
        x.request(9, 0, 2);
        int[][] wants = {{0, 0, 0}, {1, 0, 0}, {1, 1, 0}, {1, 1, 1}};
        for (int tick = 0; tick < 4; tick++) {
            for (int request = 0; request < 3; request++) {
                Due.due("of " + request + " in the tick " + tick, x.requestOf(request, 5), wants[tick][request]);
            }
            x.pass(1);
        }
        PlateArm y = new PlateArm();
        Due.passTo(y, 9999);
        y.request(0, 0, 9999);
        y.request(0, 0, 9998);
        Due.due("the deadline 9999 in the tick 9999", y.requestOf(0, 5), 0);
        Due.due("the deadline 9998 in the tick 9999", y.requestOf(1, 5), 1);
    }

    private static void requestAtRange() {
        Due.sentence("Promise 9", "Throws IllegalArgumentException if place is negative");
        PlateArm x = new PlateArm();
        for (int place : new int[] {-1, -12, MIN}) {
            Due.refused(x, ARGUMENT, "requestAt(" + place + ") of none", () -> x.requestAt(place));
        }
        Due.sentence("Promise 9", "NONE if there are not so many");
        for (int place : new int[] {0, 1, 11, 12, 13, MAX}) {
            Due.due("requestAt(" + place + ") of none", x.requestAt(place), -1);
        }
        x.request(0, 5, FAR);
        Due.due("requestAt(0) of one", x.requestAt(0), 0);
        Due.due("requestAt(1) of one", x.requestAt(1), -1);
        for (int i = 1; i < 12; i++) {
            x.request(0, 5, FAR);
        }
        Due.due("requestAt(11) of twelve", x.requestAt(11), 11);
        for (int place : new int[] {12, 13, MAX}) {
            Due.due("requestAt(" + place + ") of twelve", x.requestAt(place), -1);
        }
        Due.refused(x, ARGUMENT, "requestAt(-1) of twelve", () -> x.requestAt(-1));
        x.cancel(11);
        Due.due("requestAt(11) of eleven", x.requestAt(11), -1);
        x.plate(12, 6);
        Due.due("requestAt(0) behind plate()", x.requestAt(0), -1);
    }

    private static void requestAtByNumber() {
        Due.sentence("Promise 9", "Returns the request at a place, by their numbers");
        PlateArm x = new PlateArm();
        for (int i = 0; i < 12; i++) {
            x.request(11 - i, 5, 12 - i);
        }
        x.cancel(0);
        x.cancel(5);
        x.request(0, 0, 0);
        int[] wants = {1, 2, 3, 4, 6, 7, 8, 9, 10, 11, 12, -1};
        for (int place = 0; place < 12; place++) {
            Due.due("requestAt(" + place + ")", x.requestAt(place), wants[place]);
        }
    }

    private static void loggedRange() {
        Due.sentence("Promise 10", "Throws IllegalArgumentException if back is negative, or what is out of "
                + "range");
        PlateArm x = new PlateArm();
        for (int round = 0; round < 2; round++) {
            for (int back : new int[] {-1, -10, MIN}) {
                for (int what : new int[] {0, 4, 5}) {
                    Due.refused(x, ARGUMENT, "logged(" + back + ", " + what + ")", () -> x.logged(back, what));
                }
            }
            for (int what : new int[] {-1, 5, MIN, MAX}) {
                for (int back : new int[] {0, 1, 10, MAX}) {
                    Due.refused(x, ARGUMENT, "logged(" + back + ", " + what + ")", () -> x.logged(back, what));
                }
            }
            x.request(0, 0, 0);
            x.pass(1);
        }
    }

    private static void loggedNone() {
        Due.sentence("Promise 10", "NONE if the log has not so many");
        PlateArm x = new PlateArm();
        Due.loggedDue(x, 0, -1, -1, -1, -1, -1);
        Due.loggedDue(x, MAX, -1, -1, -1, -1, -1);
        x.request(0, 0, 0);
        x.pass(1);
        Due.loggedDue(x, 0, 0, 0, 0, 0, 0);
        Due.loggedDue(x, 1, -1, -1, -1, -1, -1);
        for (int i = 1; i < 10; i++) {
            x.request(0, i % 6, 0);
            x.pass(1);
        }
        Due.loggedDue(x, 9, 0, 0, 0, 0, 0);
        Due.loggedDue(x, 10, -1, -1, -1, -1, -1);
        x.request(0, 4, 0);
        x.pass(1);
        Due.loggedDue(x, 0, 10, 0, 4, 10, 1);
        Due.loggedDue(x, 9, 1, 0, 1, 1, 1);
        Due.loggedDue(x, 10, -1, -1, -1, -1, -1);
        Due.loggedDue(x, 11, -1, -1, -1, -1, -1);
        Due.loggedDue(x, MAX, -1, -1, -1, -1, -1);
    }

    private static void loggedLate() {
        Due.sentence("Promise 10", "4 1 if it was late or 0 if not");
        PlateArm x = new PlateArm();
        x.request(0, 2, 2);
        x.request(0, 3, 2);
        x.pass(4);
        Due.loggedDue(x, 1, 0, 0, 2, 2, 0);
        Due.loggedDue(x, 0, 1, 0, 3, 3, 1);
        x.pass(99);
        Due.loggedDue(x, 1, 0, 0, 2, 2, 0);
    }

    private static void armRange() {
        Due.sentence("Promise 11", "Throws IllegalArgumentException if what is out of range");
        PlateArm x = new PlateArm();
        x.request(3, 0, FAR);
        x.pass(2);
        for (int what : new int[] {-1, 6, MIN, MAX}) {
            Due.refused(x, ARGUMENT, "arm(" + what + ")", () -> x.arm(what));
        }
        Due.armDue(x, "from 0 to 5", 2, 1, 1, 0, 1, 2);
    }

    private static void armDirections() {
        Due.sentence("Promise 11", "1 direction (0 still, 1 up, 2 down) .. 4 direction of the sweep (1 up, 2 "
                + "down)");
        PlateArm x = new PlateArm();
        Due.armDue(x, "at first", 0, 0, 0, 0, 1, 0);
        x.set(0, 1);
        x.request(2, 3, FAR);
        x.pass(1);
        Due.armDue(x, "up", 1, 1, 1, 0, 1, 1);
        x.finish();
        Due.armDue(x, "still", 2, 0, 2, 0, 1, 4);
        x.request(0, 0, FAR);
        x.pass(1);
        Due.armDue(x, "down", 1, 2, 3, 0, 2, 5);
        x.pass(2);
        Due.armDue(x, "still again", 0, 0, 5, 0, 2, 1);
        x.request(1, 0, 0);
        x.cancel(1);
        x.pass(1);
        Due.armDue(x, "up again", 1, 1, 6, 0, 1, 2);
    }

    private static void armRests() {
        Due.sentence("Promise 11", "3 1 if it rests or 0 if not");
        PlateArm x = new PlateArm();
        x.set(1, 5);
        x.set(2, 5);
        x.request(1, 5, FAR);
        int[] heat = {0, 1, 5, 4, 3, 2};
        int[] rests = {0, 0, 1, 1, 1, 0};
        for (int tick = 0; tick < 6; tick++) {
            Due.due("the heat in the tick " + tick, x.arm(2), heat[tick]);
            Due.due("the rest in the tick " + tick, x.arm(3), rests[tick]);
            x.pass(1);
        }
    }

    private static void wholeRange() {
        Due.sentence("Promise 12", "Throws IllegalArgumentException if what is out of range");
        PlateArm x = new PlateArm();
        for (int what : new int[] {-1, 18, MIN, MAX}) {
            Due.refused(x, ARGUMENT, "whole(" + what + ")", () -> x.whole(what));
        }
        Due.due("whole(0)", x.whole(0), 12);
        x.type(32);
        Due.due("whole(17)", x.whole(17), 1);
    }

    private static void wholeSincePlate() {
        Due.sentence("Promise 12", "(8 to 16 since the plate was put in)");
        PlateArm x = new PlateArm();
        x.set(3, 1);
        x.request(0, 0, 0);
        x.pass(3);
        x.request(0, 4, 0);
        x.request(1, 0, 0);
        x.request(2, 0, FAR);
        x.cancel(3);
        x.request(2, 4, FAR);
        x.finish();
        // 3 gives up two; 4 starts, 5 steps, 6 brakes, 10 reads.
        Due.wholeDue(x, "one plate", 12, 6, 0, 3, 30, 1, 11, 0, 5, 2, 0, 2, 2, 1, 1, 0, 3, 0);
        x.plate(12, 6);
        Due.wholeDue(x, "another one", 12, 6, 0, 3, 30, 1, 0, 0, 0, 0, 0, 0, 0, 0, 0, 0, 0, 0);
        x.request(0, 1, 0);
        x.pass(2);
        Due.wholeDue(x, "with a reading", 12, 6, 0, 3, 30, 1, 2, 0, 1, 1, 1, 0, 0, 0, 0, 0, 0, 0);
        x.undo();
        x.undo();
        x.undo();
        Due.wholeDue(x, "the first plate", 12, 6, 0, 3, 30, 1, 11, 0, 5, 2, 0, 2, 2, 1, 1, 0, 3, 0);
    }

    private static void wholeRestedTicks() {
        Due.sentence("Promise 12", "15 ticks in which the arm rested when they began");
        PlateArm x = new PlateArm();
        x.set(1, 5);
        x.set(2, 5);
        x.request(1, 5, FAR);
        // The tick 1 begins the rest, the tick 4 ends it.
        int[] wants = {0, 0, 0, 1, 2, 3, 3, 3};
        for (int tick = 0; tick < wants.length; tick++) {
            Due.due("in the tick " + tick, x.whole(15), wants[tick]);
            x.pass(1);
        }
    }

    private static void wholeGreatestHeat() {
        Due.sentence("Promise 12", "16 greatest heat behind a tick");
        PlateArm x = new PlateArm();
        x.set(1, 4);
        x.request(1, 5, FAR);
        int[] wants = {0, 1, 4, 4, 4, 4};
        for (int tick = 0; tick < wants.length; tick++) {
            Due.due("in the tick " + tick, x.whole(16), wants[tick]);
            x.pass(1);
        }
        x.request(2, 5, FAR);
        // The heat is 0 when it starts again.
        x.pass(2);
        Due.due("as hot again", x.whole(16), 4);
        x.request(1, 0, FAR);
        x.cancel(1);
        x.set(1, 5);
        x.pass(2);
        Due.due("hotter", x.whole(16), 9);
        Due.due("the heat", x.arm(2), 9);
        x.undo();
        Due.due("behind undo()", x.whole(16), 4);
    }

    private static void wholeTextLength() {
        Due.sentence("Promise 12", "17 length of the command text");
        PlateArm x = new PlateArm();
        for (int i = 0; i < 150; i++) {
            Due.due("behind " + i + " bytes", x.whole(17), i);
            x.type(0);
        }
        Due.due("behind 150 bytes", x.whole(17), 150);
        x.clearCommands();
        Due.due("of none", x.whole(17), 0);
    }
}
