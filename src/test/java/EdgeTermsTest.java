/** The boundary cases of the document's section Terms, sentence by sentence: from the plate to the log. */
final class EdgeTermsTest {
    private static final Class<IllegalArgumentException> ARGUMENT = IllegalArgumentException.class;
    private static final Class<IllegalStateException> STATE = IllegalStateException.class;
    private static final int FAR = 9999;

    public static void main(String[] args) {
        sectorsComeRound();
        numberedFromZero();
        twelveAtOneTime();
        numbersAreNotUsedAgain();
        numbersAreUsedAgainByUndo();
        itsTickIsKept();
        lowestNumber();
        onTheTrackOfTheArm();
        aheadInTheDirection();
        noneAhead();
        nearestTrack();
        earliestDeadline();
        theSweepTurnsByNothingElse();
        theSweepTurnsInATick();
        noRequestsNoTarget();
        staysStill();
        restsAndStaysStill();
        restsAndMoves();
        starts();
        movesOrBrakes();
        brakesAtTheEndsOfThePlate();
        readOnlyWhenStill();
        eachForTheSectorOfTheTrack();
        lateFromTheNextTickOn();
        givenUp();
        notGivenUpWithoutPatience();
        readBeforeItIsGivenUp();
        heatAboveZero();
        restBegins();
        restEnds();
        tenReadings();
        Due.end("EdgeTermsTest");
    }

    /** Still over the track 5, sweeping up: tick 9, heat 0, the next request is 1. */
    static PlateArm sweepingUp() {
        PlateArm x = new PlateArm();
        x.request(5, 2, FAR);
        x.finish();
        Due.armDue(x, "sweeping up", 5, 0, 0, 0, 1, 3);
        return x;
    }

    /** Still over the track 5, sweeping down by the way 1: tick 19, heat 0, the next request is 2. */
    static PlateArm sweepingDown() {
        PlateArm x = new PlateArm();
        x.set(0, 1);
        x.request(6, 0, FAR);
        x.finish();
        x.request(5, 0, FAR);
        x.finish();
        Due.armDue(x, "sweeping down", 5, 0, 0, 0, 2, 1);
        return x;
    }

    private static void sectorsComeRound() {
        Due.sentence("Terms", "In the tick t, the sector under the arm is t modulo the sectors");
        for (int sectors : new int[] {3, 7, 12}) {
            PlateArm x = new PlateArm();
            x.plate(4, sectors);
            Due.due("sector in the tick 0 of " + sectors, x.arm(5), 0);
            x.pass(sectors - 1);
            Due.due("sector in the last tick of a turn of " + sectors, x.arm(5), sectors - 1);
            x.request(0, 0, FAR);
            Due.due("pass(1) in the last sector", x.pass(1), 0);
            Due.due("sector behind a turn of " + sectors, x.arm(5), 0);
            Due.due("pass(1) in the sector 0", x.pass(1), 1);
            Due.due("logged tick", x.logged(0, 3), sectors);
        }
        PlateArm x = new PlateArm();
        x.plate(4, 7);
        Due.passTo(x, 9999);
        Due.due("sector in the tick 9999 of 7", x.arm(5), 3);
    }

    private static void numberedFromZero() {
        Due.sentence("Terms", "The plate has tracks (.., numbered from 0, and sectors (..), numbered from 0");
        PlateArm x = new PlateArm();
        x.plate(24, 12);
        Due.due("request(0, 0, 0)", x.request(0, 0, 0), 0);
        Due.due("request(23, 11, 0)", x.request(23, 11, 0), 1);
        Due.refused(x, ARGUMENT, "request(24, 11, 0)", () -> x.request(24, 11, 0));
        Due.refused(x, ARGUMENT, "request(23, 12, 0)", () -> x.request(23, 12, 0));
        // 0 reads the first; 1 starts, 2 to 23 step, 24 brakes; 35 reads in the sector 11.
        Due.due("finish()", x.finish(), 36);
        Due.loggedDue(x, 1, 0, 0, 0, 0, 0);
        Due.loggedDue(x, 0, 1, 23, 11, 35, 1);
    }

    private static void twelveAtOneTime() {
        Due.sentence("Terms", "There are at most 12 requests at one time");
        PlateArm x = new PlateArm();
        x.set(3, 1);
        x.request(0, 0, 9);
        x.request(0, 5, 0);
        for (int i = 2; i < 12; i++) {
            Due.due("request no. " + i, x.request(0, 5, FAR), i);
        }
        Due.refused(x, STATE, "the 13th", () -> x.request(0, 5, FAR));
        x.pass(1);
        Due.due("behind a reading", x.request(0, 5, FAR), 12);
        Due.refused(x, STATE, "the 13th behind a reading", () -> x.request(0, 5, FAR));
        x.pass(2);
        Due.due("given up", x.whole(11), 1);
        Due.due("behind a giving up", x.request(0, 5, FAR), 13);
        Due.refused(x, STATE, "the 13th behind a giving up", () -> x.request(0, 5, FAR));
        x.cancel(7);
        Due.due("behind a cancel", x.request(0, 5, FAR), 14);
        Due.refused(x, STATE, "the 13th behind a cancel", () -> x.request(0, 5, FAR));
    }

    private static void numbersAreNotUsedAgain() {
        Due.sentence("Terms", "numbers are not used again");
        PlateArm x = new PlateArm();
        Due.due("the first number", x.request(0, 0, FAR), 0);
        x.cancel(0);
        Due.due("behind a cancel", x.request(0, 0, FAR), 1);
        x.pass(1);
        Due.due("behind a reading", x.request(0, 0, 0), 2);
        x.set(3, 1);
        x.pass(2);
        Due.due("given up", x.whole(11), 1);
        Due.due("behind a giving up", x.request(0, 0, 0), 3);
        Due.due("told in all", x.whole(8), 4);
    }

    private static void numbersAreUsedAgainByUndo() {
        Due.sentence("Terms", "numbers are not used again (but by undo())");
        PlateArm x = new PlateArm();
        x.request(0, 0, FAR);
        x.request(1, 0, FAR);
        x.undo();
        Due.due("behind one undo()", x.request(2, 0, FAR), 1);
        x.undo();
        x.undo();
        Due.due("behind two more", x.request(3, 0, FAR), 0);
    }

    private static void itsTickIsKept() {
        Due.sentence("Terms", "keeps the tick in which it was told");
        PlateArm x = new PlateArm();
        x.request(1, 0, FAR);
        x.cancel(0);
        x.request(11, 0, FAR);
        Due.requestDue(x, 1, 11, 0, FAR, 0);
        x.pass(1);
        x.request(11, 1, FAR);
        x.pass(2);
        Due.requestDue(x, 1, 11, 0, FAR, 0);
        Due.requestDue(x, 2, 11, 1, FAR, 1);
        x.cancel(1);
        Due.requestDue(x, 2, 11, 1, FAR, 1);
        x.cancel(2);
        Due.passTo(x, 9999);
        x.request(3, 0, 0);
        Due.requestDue(x, 3, 3, 0, 0, 9999);
    }

    private static void lowestNumber() {
        Due.sentence("Terms", "0 the lowest number");
        PlateArm x = new PlateArm();
        x.request(9, 0, 90);
        x.request(4, 0, 80);
        x.request(0, 0, 10);
        Due.due("target(0) of 0, 1, 2", x.target(0), 0);
        x.cancel(0);
        Due.due("target(0) of 1, 2", x.target(0), 1);
        x.request(0, 0, 0);
        Due.due("target(0) of 1, 2, 3", x.target(0), 1);
        x.cancel(1);
        x.cancel(2);
        Due.due("target(0) of 3", x.target(0), 3);
    }

    private static void onTheTrackOfTheArm() {
        Due.sentence("Terms", "1 sweeping: of those on the track of the arm, or on tracks ahead of it");
        PlateArm up = sweepingUp();
        up.request(6, 0, FAR);
        up.request(4, 0, FAR);
        up.request(5, 3, FAR);
        up.request(5, 2, FAR);
        Due.due("target(1), sweeping up", up.target(1), 3);
        PlateArm down = sweepingDown();
        down.request(6, 0, FAR);
        down.request(4, 0, FAR);
        down.request(5, 3, FAR);
        down.request(5, 2, FAR);
        Due.due("target(1), sweeping down", down.target(1), 4);
        down.pass(1);
        Due.armDue(down, "over its target", 5, 0, 0, 0, 2, 2);
    }

    private static void aheadInTheDirection() {
        Due.sentence("Terms", "ahead of it in the direction of the sweep, the one on the nearest track, of "
                + "several the lowest number");
        PlateArm up = sweepingUp();
        up.request(4, 0, 0);
        up.request(11, 0, FAR);
        Due.due("ahead, though far", up.target(1), 2);
        up.request(8, 0, FAR);
        Due.due("the nearest ahead", up.target(1), 3);
        up.request(8, 1, 0);
        Due.due("the lowest number of a track ahead", up.target(1), 3);
        PlateArm down = sweepingDown();
        down.request(6, 0, 0);
        down.request(0, 0, FAR);
        Due.due("below, though far", down.target(1), 3);
        down.request(3, 0, FAR);
        Due.due("the nearest below", down.target(1), 4);
        down.request(3, 1, 0);
        Due.due("the lowest number of a track below", down.target(1), 4);
    }

    private static void noneAhead() {
        Due.sentence("Terms", "if there is none, the sweep turns round, and it is chosen likewise");
        PlateArm up = sweepingUp();
        up.set(0, 1);
        up.request(0, 0, FAR);
        up.request(3, 1, FAR);
        up.request(3, 0, 0);
        Due.due("target(1) behind", up.target(1), 2);
        up.pass(1);
        Due.armDue(up, "turned", 4, 2, 1, 0, 2, 4);
        PlateArm down = sweepingDown();
        down.request(11, 0, FAR);
        down.request(7, 1, FAR);
        down.request(7, 0, 0);
        Due.due("target(1) above", down.target(1), 3);
        down.pass(1);
        Due.armDue(down, "turned", 6, 1, 1, 0, 1, 2);
    }

    private static void nearestTrack() {
        Due.sentence("Terms", "2 the one on the nearest track, of several the lowest number");
        PlateArm x = sweepingUp();
        x.request(8, 0, 0);
        x.request(3, 0, 0);
        x.request(7, 0, FAR);
        Due.due("as near on both sides, below told first", x.target(2), 2);
        x.cancel(2);
        x.request(3, 0, 0);
        Due.due("as near on both sides, above told first", x.target(2), 3);
        x.request(6, 0, FAR);
        Due.due("one track off", x.target(2), 5);
        x.request(5, 4, FAR);
        Due.due("on the track of the arm", x.target(2), 6);
        x.request(5, 3, 0);
        Due.due("two on the track of the arm", x.target(2), 6);
    }

    private static void earliestDeadline() {
        Due.sentence("Terms", "3 the one with the earliest deadline, of several the lowest number");
        PlateArm x = sweepingUp();
        x.request(5, 0, FAR);
        x.request(0, 0, 9998);
        Due.due("one tick earlier", x.target(3), 2);
        x.request(5, 1, 9998);
        Due.due("the lowest number of two", x.target(3), 2);
        x.request(11, 0, 0);
        Due.due("the deadline 0", x.target(3), 4);
        x.request(5, 2, 0);
        Due.due("the lowest number of two of 0", x.target(3), 4);
    }

    private static void theSweepTurnsByNothingElse() {
        Due.sentence("Terms", "it turns round only as told, when a target is chosen in a tick by the way 1");
        for (int way = 0; way < 4; way++) {
            PlateArm x = sweepingUp();
            x.request(2, 0, FAR);
            if (way != 1) {
                x.set(0, way);
                x.pass(4);
                Due.armDue(x, "down by the way " + way, 2, 0, 3, 0, 1, 1);
            }
        }
        PlateArm x = sweepingUp();
        x.request(2, 0, FAR);
        x.set(0, 1);
        x.target(1);
        x.readIn(1);
        x.finishBy(1, 0);
        x.bestWay();
        x.heatIn(99);
        x.reason(1);
        x.digest();
        Due.due("the sweep behind questions", x.arm(4), 1);
        x.cancel(1);
        x.pass(9);
        Due.due("the sweep without requests", x.arm(4), 1);
        x.request(11, 0, FAR);
        x.pass(3);
        Due.due("the sweep with a target ahead", x.arm(4), 1);
        PlateArm down = sweepingDown();
        down.set(0, 0);
        down.set(0, 1);
        Due.due("the sweep behind settings", down.arm(4), 2);
        down.request(11, 0, FAR);
        down.set(0, 2);
        down.pass(3);
        Due.armDue(down, "up by the way 2", 8, 1, 1, 0, 2, 4);
    }

    private static void theSweepTurnsInATick() {
        Due.sentence("Terms", "the sweep turns round .. when a target is chosen in a tick by the way 1");
        PlateArm moving = new PlateArm();
        moving.request(9, 0, FAR);
        moving.pass(4);
        moving.request(2, 0, FAR);
        moving.cancel(0);
        moving.set(0, 1);
        moving.pass(1);
        Due.armDue(moving, "it brakes, and the sweep is turned", 4, 0, 3, 0, 2, 5);
        PlateArm resting = new PlateArm();
        resting.set(1, 20);
        resting.set(2, 5);
        resting.request(3, 4, FAR);
        resting.finish();
        resting.request(2, 0, FAR);
        resting.set(0, 1);
        resting.pass(1);
        Due.armDue(resting, "it rests, and the sweep is turned", 3, 0, 18, 1, 2, 0);
        resting.cancel(1);
        resting.request(4, 0, FAR);
        resting.pass(1);
        Due.armDue(resting, "it rests, and the sweep is turned again", 3, 0, 17, 1, 1, 1);
    }

    private static void noRequestsNoTarget() {
        Due.sentence("Terms", "(1) The target is chosen, if there are requests");
        PlateArm x = sweepingDown();
        for (int way = 0; way < 4; way++) {
            Due.due("target(" + way + ")", x.target(way), -1);
        }
        x.pass(99);
        Due.armDue(x, "nothing to do", 5, 0, 0, 0, 2, 4);
    }

    private static void staysStill() {
        Due.sentence("Terms", "over the track of the target (or without a target) it stays still");
        PlateArm x = new PlateArm();
        x.pass(99);
        Due.armDue(x, "without a target", 0, 0, 0, 0, 1, 3);
        x.request(0, 2, FAR);
        x.request(1, 0, 0);
        x.pass(5);
        Due.armDue(x, "over the track of the target", 0, 0, 0, 0, 1, 2);
        Due.due("steps", x.whole(12), 0);
        Due.due("starts", x.whole(13), 0);
        Due.due("brakings", x.whole(14), 0);
    }

    private static void restsAndStaysStill() {
        Due.sentence("Terms", "otherwise, if it rests, it stays still");
        PlateArm x = new PlateArm();
        x.set(1, 6);
        x.set(2, 5);
        x.request(1, 2, FAR);
        // 0 starts, 1 brakes (heat 6, rest), 2 reads (5), 3 (4), 4 (3), 5 (2, the rest ends), 6 starts.
        Due.due("finish()", x.finish(), 3);
        x.request(0, 0, FAR);
        x.pass(2);
        Due.armDue(x, "rests", 1, 0, 3, 1, 1, 5);
        x.pass(1);
        Due.armDue(x, "its last tick of rest", 1, 0, 2, 0, 1, 0);
        Due.due("ticks of rest", x.whole(15), 4);
        x.pass(1);
        Due.armDue(x, "behind the rest", 0, 2, 3, 0, 1, 1);
        Due.due("ticks of rest", x.whole(15), 4);
        Due.due("starts", x.whole(13), 2);
    }

    private static void restsAndMoves() {
        Due.sentence("Terms", "If it moves: .. it steps one track, and the heat increases by 1; otherwise it "
                + "brakes");
        PlateArm x = new PlateArm();
        x.set(1, 20);
        x.request(1, 2, FAR);
        // 0 starts, 1 brakes (heat 20), 2 reads (heat 19); 3 starts (heat 20) towards the track 4.
        x.finish();
        x.request(4, 0, FAR);
        x.pass(1);
        x.set(2, 20);
        x.pass(1);
        Due.armDue(x, "the rest begins, it moves", 3, 1, 20, 1, 1, 5);
        x.pass(1);
        Due.armDue(x, "it rests and moves on", 4, 1, 20, 1, 1, 0);
        x.pass(1);
        Due.armDue(x, "it rests and brakes", 4, 0, 39, 1, 1, 1);
        Due.due("ticks of rest", x.whole(15), 2);
        x.pass(1);
        Due.armDue(x, "it rests and is still", 4, 0, 38, 1, 1, 2);
    }

    private static void starts() {
        Due.sentence("Terms", "it moves in the direction of the target's track, and steps one track; the "
                + "heat increases by 2");
        PlateArm x = new PlateArm();
        x.plate(4, 3);
        x.request(3, 0, FAR);
        x.pass(1);
        Due.armDue(x, "up from the first track", 1, 1, 1, 0, 1, 1);
        Due.wholeDue(x, "up", 4, 3, 0, 3, 30, 0, 1, 1, 1, 0, 0, 0, 1, 1, 0, 0, 1);
        x.finish();
        Due.armDue(x, "over the last track", 3, 0, 0, 0, 1, 1);
        x.request(2, 0, FAR);
        x.pass(1);
        Due.armDue(x, "down from the last track", 2, 2, 1, 0, 1, 2);
        Due.due("steps", x.whole(12), 4);
        Due.due("starts", x.whole(13), 2);
        x.finish();
        x.request(3, 0, FAR);
        x.pass(1);
        Due.armDue(x, "up to the next track", 3, 1, 3, 0, 1, 2);
    }

    private static PlateArm movingUp() {
        PlateArm x = sweepingUp();
        x.request(8, 0, FAR);
        x.pass(1);
        Due.armDue(x, "moves up", 6, 1, 1, 0, 1, 4);
        return x;
    }

    private static PlateArm movingDown() {
        PlateArm x = sweepingUp();
        x.request(2, 0, FAR);
        x.pass(1);
        Due.armDue(x, "moves down", 4, 2, 1, 0, 1, 4);
        return x;
    }

    /** The arm moves to a request, which is replaced by another one. */
    private static void turnDue(String when, PlateArm x, int track, int... wants) {
        x.request(track, 0, FAR);
        x.cancel(1);
        x.pass(1);
        Due.armDue(x, when, wants);
    }

    private static void movesOrBrakes() {
        Due.sentence("Terms", "if there is a target, and its track lies farther in this direction, it steps "
                + "one track, and the heat increases by 1; otherwise it brakes");
        turnDue("up, one track farther", movingUp(), 7, 7, 1, 1, 0, 1, 5);
        turnDue("up, on its track", movingUp(), 6, 6, 0, 3, 0, 1, 5);
        turnDue("up, one track back", movingUp(), 5, 6, 0, 3, 0, 1, 5);
        turnDue("down, one track farther", movingDown(), 3, 3, 2, 1, 0, 1, 5);
        turnDue("down, on its track", movingDown(), 4, 4, 0, 3, 0, 1, 5);
        turnDue("down, one track back", movingDown(), 5, 4, 0, 3, 0, 1, 5);
        PlateArm x = movingUp();
        x.cancel(1);
        x.pass(1);
        Due.armDue(x, "without a target", 6, 0, 3, 0, 1, 5);
        Due.due("steps", x.whole(12), 6);
        Due.due("brakings", x.whole(14), 2);
        Due.sentence("Terms", "it is still, and the heat increases by the brake");
        PlateArm least = movingUp();
        least.set(1, 0);
        least.cancel(1);
        least.pass(1);
        Due.armDue(least, "the brake 0", 6, 0, 0, 0, 1, 5);
        PlateArm most = movingUp();
        most.set(1, 20);
        most.cancel(1);
        most.pass(1);
        Due.armDue(most, "the brake 20", 6, 0, 20, 0, 1, 5);
    }

    private static void brakesAtTheEndsOfThePlate() {
        Due.sentence("Terms", "its track lies farther in this direction .. otherwise it brakes");
        PlateArm x = new PlateArm();
        x.plate(4, 3);
        x.request(3, 0, FAR);
        x.pass(3);
        Due.armDue(x, "over the last track", 3, 1, 1, 0, 1, 0);
        x.pass(1);
        Due.armDue(x, "braked there", 3, 0, 3, 0, 1, 1);
        x.cancel(0);
        x.request(0, 0, FAR);
        x.pass(3);
        Due.armDue(x, "over the first track", 0, 2, 4, 0, 1, 1);
        x.pass(1);
        Due.armDue(x, "braked there", 0, 0, 6, 0, 1, 2);
    }

    private static void readOnlyWhenStill() {
        Due.sentence("Terms", "(3) If the arm was still when the tick began, and is still");
        PlateArm x = new PlateArm();
        x.request(2, 0, FAR);
        x.request(0, 0, FAR);
        x.request(1, 0, FAR);
        x.request(1, 1, FAR);
        x.request(2, 2, FAR);
        x.request(2, 1, FAR);
        Due.due("it starts over the track and the sector of 1", x.pass(1), 0);
        Due.due("it moves from the track and the sector of 3", x.pass(1), 0);
        Due.due("it brakes over the track and the sector of 4", x.pass(1), 0);
        x.request(2, 3, FAR);
        Due.due("the first tick behind the brake", x.pass(1), 1);
        Due.loggedDue(x, 0, 6, 2, 3, 3, 0);
        Due.due("the sectors 4 and 5", x.pass(2), 0);
        Due.due("the sector 0", x.pass(1), 1);
    }

    private static void eachForTheSectorOfTheTrack() {
        Due.sentence("Terms", "each request for the sector under the arm of the track under the arm is read, "
                + "in the order of their numbers: it is logged with the tick, and is gone");
        PlateArm x = new PlateArm();
        x.request(0, 1, FAR);
        x.request(1, 1, FAR);
        x.request(0, 2, FAR);
        x.request(0, 1, 0);
        x.request(0, 0, FAR);
        x.request(0, 1, FAR);
        Due.due("the sector 0", x.pass(1), 1);
        Due.due("the sector 1", x.pass(1), 3);
        Due.loggedDue(x, 3, 4, 0, 0, 0, 0);
        Due.loggedDue(x, 2, 0, 0, 1, 1, 0);
        Due.loggedDue(x, 1, 3, 0, 1, 1, 1);
        Due.loggedDue(x, 0, 5, 0, 1, 1, 0);
        Due.due("requestAt(0)", x.requestAt(0), 1);
        Due.due("requestAt(1)", x.requestAt(1), 2);
        Due.due("requestAt(2)", x.requestAt(2), -1);
    }

    private static void lateFromTheNextTickOn() {
        Due.sentence("Terms", "It is late if the tick is greater than its deadline");
        PlateArm x = new PlateArm();
        x.request(0, 5, 6);
        x.request(0, 5, 5);
        x.request(0, 5, 4);
        x.request(0, 5, 0);
        Due.due("pass(6)", x.pass(6), 4);
        Due.due("the deadline 6 in the tick 5", x.logged(3, 4), 0);
        Due.due("the deadline 5 in the tick 5", x.logged(2, 4), 0);
        Due.due("the deadline 4 in the tick 5", x.logged(1, 4), 1);
        Due.due("the deadline 0 in the tick 5", x.logged(0, 4), 1);
        Due.due("late in all", x.whole(10), 2);
        PlateArm y = new PlateArm();
        y.request(0, 0, 0);
        y.pass(1);
        Due.due("the deadline 0 in the tick 0", y.logged(0, 4), 0);
    }

    private static void givenUp() {
        Due.sentence("Terms", "(4) Each request with a deadline + patience less than the tick is given up");
        for (int patience : new int[] {1, 2, 100}) {
            PlateArm x = new PlateArm();
            x.set(3, patience);
            Due.passTo(x, patience);
            // This sector has just gone by: it comes again too late.
            int sector = (patience + 5) % 6;
            x.request(0, sector, 3);
            x.request(0, sector, 2);
            x.pass(3);
            Due.due("given up before the tick 3 + " + patience, x.whole(11), 0);
            Due.due("pass(1)", x.pass(1), 0);
            Due.due("given up in the tick 3 + " + patience, x.whole(11), 1);
            Due.due("requestAt(0)", x.requestAt(0), 0);
            Due.due("pass(1)", x.pass(1), 0);
            Due.due("given up in the tick 4 + " + patience, x.whole(11), 2);
            Due.due("requests", x.whole(7), 0);
        }
        PlateArm y = new PlateArm();
        y.set(3, 1);
        y.request(9, 0, 1);
        y.pass(4);
        Due.armDue(y, "the target is given up in the tick 3", 4, 1, 1, 0, 1, 4);
        Due.due("given up", y.whole(11), 1);
        y.pass(1);
        Due.armDue(y, "without a target it brakes", 4, 0, 3, 0, 1, 5);
    }

    private static void notGivenUpWithoutPatience() {
        Due.sentence("Terms", "is given up, and is gone, if the patience is not 0");
        PlateArm x = new PlateArm();
        x.request(11, 1, 0);
        // 0 starts, 1 to 10 step, 11 brakes; it would be read in 13.
        Due.passTo(x, 12);
        Due.due("the patience 0", x.whole(7), 1);
        Due.due("given up", x.whole(11), 0);
        x.set(3, 1);
        x.pass(1);
        Due.due("the patience 1", x.whole(7), 0);
        Due.due("given up", x.whole(11), 1);
    }

    private static void readBeforeItIsGivenUp() {
        Due.sentence("Terms", "these things happen, in this order: (3) .. read .. (4) .. given up");
        PlateArm x = new PlateArm();
        x.pass(6);
        x.set(3, 1);
        x.request(0, 0, 0);
        x.request(0, 1, 0);
        Due.due("pass(1)", x.pass(1), 1);
        Due.loggedDue(x, 0, 0, 0, 0, 6, 1);
        Due.due("read in all", x.whole(9), 1);
        Due.due("late in all", x.whole(10), 1);
        Due.due("given up in all", x.whole(11), 1);
        Due.due("requests", x.whole(7), 0);
    }

    private static void heatAboveZero() {
        Due.sentence("Terms", "(5) The heat decreases by 1, if it is above 0");
        PlateArm x = new PlateArm();
        x.pass(1);
        Due.due("the heat 0", x.arm(2), 0);
        x.request(1, 0, FAR);
        x.pass(1);
        x.cancel(0);
        x.pass(1);
        int[] wants = {3, 2, 1, 0, 0, 0};
        for (int want : wants) {
            Due.due("the heat", x.arm(2), want);
            x.pass(1);
        }
    }

    /** The heat behind the brake is 9 with this limit. */
    private static PlateArm braked(int limit) {
        PlateArm x = new PlateArm();
        x.set(1, 9);
        x.set(2, limit);
        x.request(1, 0, FAR);
        x.pass(2);
        Due.due("the heat behind the brake", x.arm(2), 9);
        return x;
    }

    private static void restBegins() {
        Due.sentence("Terms", "The arm begins to rest if the heat is at the limit or above it");
        Due.due("below the limit", braked(10).arm(3), 0);
        Due.due("at the limit", braked(9).arm(3), 1);
        Due.due("above the limit", braked(8).arm(3), 1);
        PlateArm x = braked(10);
        x.set(2, 9);
        Due.due("a setting alone", x.arm(3), 0);
        x.pass(1);
        Due.due("the heat is 8 when the tick ends", x.arm(3), 0);
        PlateArm y = braked(10);
        y.set(2, 8);
        y.pass(1);
        Due.due("at the limit behind the next tick", y.arm(3), 1);
    }

    private static void restEnds() {
        Due.sentence("Terms", "rests until the heat is at most half of the limit (rounded down)");
        for (int limit : new int[] {9, 8, 7, 6, 5}) {
            PlateArm x = braked(limit);
            x.pass(9 - limit / 2 - 1);
            Due.armDue(x, "above half of " + limit, 1, 0, limit / 2 + 1, 1);
            x.pass(1);
            Due.armDue(x, "at half of " + limit, 1, 0, limit / 2, 0);
        }
        PlateArm x = braked(9);
        x.set(2, 200);
        Due.due("a setting alone", x.arm(3), 1);
        x.pass(1);
        Due.due("at most half of the new limit", x.arm(3), 0);
        PlateArm y = braked(9);
        y.set(2, 15);
        y.pass(1);
        Due.armDue(y, "below the limit, above its half", 1, 0, 8, 1);
        y.pass(1);
        Due.armDue(y, "at its half", 1, 0, 7, 0);
    }

    private static void tenReadings() {
        Due.sentence("Terms", "The log keeps the latest 10 readings");
        PlateArm x = new PlateArm();
        for (int i = 0; i < 23; i++) {
            Due.due("logged(" + Math.min(i, 10) + ", 3)", x.logged(Math.min(i, 10), 3), -1);
            x.request(0, i % 6, FAR);
            x.pass(1);
            Due.due("the latest", x.logged(0, 3), i);
            Due.due("the earliest", x.logged(Math.min(i, 9), 3), Math.max(0, i - 9));
        }
        PlateArm y = new PlateArm();
        for (int i = 0; i < 12; i++) {
            y.request(0, 0, FAR);
        }
        Due.due("twelve at once", y.pass(1), 12);
        for (int back = 0; back < 10; back++) {
            Due.due("logged(" + back + ", 0)", y.logged(back, 0), 11 - back);
        }
        Due.due("logged(10, 0)", y.logged(10, 0), -1);
        Due.due("read in all", y.whole(9), 12);
    }
}
