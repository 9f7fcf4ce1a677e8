/** The boundary cases of the promises 13 to 19, sentence by sentence. */
final class EdgeWhatIfTest {
    private static final Class<IllegalArgumentException> ARGUMENT = IllegalArgumentException.class;
    private static final Class<IndexOutOfBoundsException> INDEX = IndexOutOfBoundsException.class;
    private static final int FAR = 9999;
    private static final int MIN = Integer.MIN_VALUE;
    private static final int MAX = Integer.MAX_VALUE;
    /** The last request of EdgeCallsTest.longTrips(). */
    private static final int LAST = 17;

    private interface Question {
        long answer(PlateArm x, int request);
    }

    public static void main(String[] args) {
        targetRange();
        targetOfNone();
        readInOfNone();
        readInThisTick();
        readInGivenUp();
        readIn500Ticks();
        readInBeyondTheLastTick();
        finishByRange();
        finishByOfNone();
        finishByAnotherWay();
        finishByOf500();
        finishByBeyondTheLastTick();
        bestWayOfNone();
        bestWayFewest();
        bestWayLateAndGivenUp();
        bestWayLeftBehind();
        heatInRange();
        heatInNoTicks();
        heatInBeyondTheLastTick();
        widestOfFew();
        widestOfThePlate();
        reasonOfNone();
        reasonNothing();
        reasonMoves();
        reasonAnotherTrack();
        reasonLeaves();
        reasonDoesNotLeave();
        reasonAnotherSector();
        nothingChanges();
        Due.end("EdgeWhatIfTest");
    }

    private static void targetRange() {
        Due.sentence("Promise 13", "way: 0 to 3; throws IllegalArgumentException");
        PlateArm x = new PlateArm();
        for (int way : new int[] {-1, 4, MIN, MAX}) {
            Due.refused(x, ARGUMENT, "target(" + way + ") of none", () -> x.target(way));
        }
        x.request(3, 0, FAR);
        for (int way : new int[] {-1, 4, MIN, MAX}) {
            Due.refused(x, ARGUMENT, "target(" + way + ") of one", () -> x.target(way));
        }
        for (int way = 0; way < 4; way++) {
            Due.due("target(" + way + ")", x.target(way), 0);
        }
    }

    private static void targetOfNone() {
        Due.sentence("Promise 13", "NONE if there is none");
        PlateArm x = new PlateArm();
        x.request(3, 0, FAR);
        x.cancel(0);
        for (int way = 0; way < 4; way++) {
            Due.due("target(" + way + ")", x.target(way), -1);
        }
    }

    /** A question about a request: of 0, which is read, 1, cancelled, 2, given up, and 3, which is left. */
    private static void goneDue(String promise, String name, Question asked, long ofTheOneLeft) {
        Due.sentence(promise, "Throws IndexOutOfBoundsException if there is no such request (it was read, "
                + "cancelled, or given up)");
        PlateArm x = new PlateArm();
        for (int request : new int[] {0, -1, 1, MIN, MAX}) {
            Due.refused(x, INDEX, name + "(" + request + ") of none", () -> asked.answer(x, request));
        }
        x.set(3, 1);
        x.request(0, 0, 0);
        x.request(0, 1, FAR);
        x.request(0, 5, 0);
        x.request(0, 4, FAR);
        x.cancel(1);
        x.pass(3);
        for (int request : new int[] {-1, 0, 1, 2, 4, MIN, MAX}) {
            Due.refused(x, INDEX, name + "(" + request + ")", () -> asked.answer(x, request));
        }
        Due.due(name + "(3)", asked.answer(x, 3), ofTheOneLeft);
    }

    private static void readInOfNone() {
        goneDue("Promise 14", "readIn", (x, request) -> x.readIn(request), 4);
    }

    private static void readInThisTick() {
        Due.sentence("Promise 14", "Tells in which tick a request would be read, if nothing but ticks passed");
        PlateArm x = new PlateArm();
        for (int i = 0; i < 12; i++) {
            x.request(0, 1, FAR);
        }
        for (int i = 0; i < 12; i++) {
            Due.due("readIn(" + i + ") of twelve at once", x.readIn(i), 1);
        }
        x.pass(1);
        for (int i = 0; i < 12; i++) {
            Due.due("readIn(" + i + ") in its tick", x.readIn(i), 1);
        }
        x.pass(1);
        x.request(0, 1, FAR);
        Due.due("readIn(12), the sector has just gone by", x.readIn(12), 7);
    }

    private static void readInGivenUp() {
        Due.sentence("Promise 14", "NONE if it would be given up");
        PlateArm x = new PlateArm();
        // It would be read in the tick 5, and given up in the tick deadline + patience + 1.
        x.request(0, 5, 2);
        int[] wants = {5, -1, 5, 5};
        for (int patience = 0; patience < wants.length; patience++) {
            x.set(3, patience);
            Due.due("readIn(0) with the patience " + patience, x.readIn(0), wants[patience]);
        }
    }

    private static void readIn500Ticks() {
        Due.sentence("Promise 14", "NONE if it would .. not be read in the next 500 ticks");
        PlateArm x = EdgeCallsTest.longTrips(20, FAR);
        Due.due("in the 503rd tick", x.readIn(LAST), -1);
        Due.due("the last but one", x.readIn(LAST - 1) > 0 ? 1 : 0, 1);
        x.pass(2);
        Due.due("in the 501st tick", x.readIn(LAST), -1);
        x.pass(1);
        Due.due("in the 500th tick", x.readIn(LAST), 522);
        x.pass(1);
        Due.due("in the 499th tick", x.readIn(LAST), 522);
        Due.passTo(x, 523);
        Due.due("it was read", x.logged(0, 0), LAST);
        Due.due("it was read in", x.logged(0, 3), 522);
    }

    private static void readInBeyondTheLastTick() {
        Due.sentence("Promise 14", "not be read in the next 500 ticks");
        PlateArm x = new PlateArm();
        Due.passTo(x, 9998);
        for (int sector = 0; sector < 6; sector++) {
            x.request(0, sector, FAR);
        }
        int[] wants = {10002, 10003, 9998, 9999, 10000, 10001};
        for (int request = 0; request < 6; request++) {
            Due.due("readIn(" + request + ")", x.readIn(request), wants[request]);
        }
    }

    private static void finishByRange() {
        Due.sentence("Promise 15", "Throws IllegalArgumentException if way or what is out of range");
        PlateArm x = new PlateArm();
        for (int round = 0; round < 2; round++) {
            for (int wrong : new int[] {-1, MIN, MAX}) {
                Due.refused(x, ARGUMENT, "finishBy(" + wrong + ", 0)", () -> x.finishBy(wrong, 0));
                Due.refused(x, ARGUMENT, "finishBy(0, " + wrong + ")", () -> x.finishBy(0, wrong));
            }
            Due.refused(x, ARGUMENT, "finishBy(4, 0)", () -> x.finishBy(4, 0));
            Due.refused(x, ARGUMENT, "finishBy(3, 5)", () -> x.finishBy(3, 5));
            Due.refused(x, ARGUMENT, "finishBy(4, 5)", () -> x.finishBy(4, 5));
            x.request(2, 0, 5);
        }
        // 0 starts, 1 steps, 2 brakes, 6 reads; the second one is told likewise.
        int[] wants = {7, 2, 2, 2, 0};
        for (int what = 0; what < 5; what++) {
            Due.due("finishBy(3, " + what + ")", x.finishBy(3, what), wants[what]);
            Due.due("finishBy(0, " + what + ")", x.finishBy(0, what), wants[what]);
        }
    }

    private static void forecastDue(String when, PlateArm x, int way, int... wants) {
        for (int what = 0; what < wants.length; what++) {
            Due.due(when + ": finishBy(" + way + ", " + what + ")", x.finishBy(way, what), wants[what]);
        }
    }

    private static void finishByOfNone() {
        Due.sentence("Promise 15", "Tells a value of finish(), if it was called now");
        PlateArm x = new PlateArm();
        x.request(0, 0, FAR);
        x.request(2, 0, 0);
        x.pass(1);
        x.set(1, 20);
        x.finish();
        x.request(3, 0, FAR);
        x.pass(1);
        x.cancel(2);
        for (int way = 0; way < 4; way++) {
            // 7 starts; the heat behind the brake in the tick 3 was 20.
            forecastDue("without requests, moving", x, way, 0, 0, 0, 0, x.arm(2));
        }
        Due.due("the heat", x.arm(2), 18);
    }

    private static void finishByAnotherWay() {
        Due.sentence("Promise 15", "if it was called now with another way");
        for (int setting = 0; setting < 4; setting++) {
            PlateArm x = new PlateArm();
            x.set(0, setting);
            x.request(2, 0, 9);
            x.request(1, 2, 3);
            forecastDue("the setting " + setting, x, 0, 15, 2, 1, 3, 0);
            forecastDue("the setting " + setting, x, 1, 7, 2, 0, 2, 3);
            forecastDue("the setting " + setting, x, 2, 7, 2, 0, 2, 3);
            forecastDue("the setting " + setting, x, 3, 7, 2, 0, 2, 3);
            Due.due("the setting is left", x.whole(2), setting);
        }
    }

    private static void finishByOf500() {
        Due.sentence("Promise 15", "a value of finish()");
        PlateArm x = EdgeCallsTest.longTrips(20, 0);
        // Seven trips of 140 tracks, and the last one of 16, which ends in the tick 501 of them.
        forecastDue("503 ticks", x, 0, 500, 7, 0, 155);
        x.pass(2);
        forecastDue("501 ticks", x, 0, 500, 7, 0, 156);
        x.pass(1);
        forecastDue("500 ticks", x, 0, 500, 8, 1, 156);
        x.pass(1);
        forecastDue("499 ticks", x, 0, 499, 8, 1, 156);
    }

    private static void finishByBeyondTheLastTick() {
        Due.sentence("Promise 15", "(also beyond the tick 9999)");
        PlateArm x = new PlateArm();
        Due.passTo(x, 9999);
        x.request(0, 2, FAR);
        // The sector 2 is under the arm in 10004; 9999 has the sector 3.
        for (int way = 0; way < 4; way++) {
            forecastDue("at 9999", x, way, 6, 1, 1, 0, 0);
        }
        x.request(0, 3, FAR);
        forecastDue("at 9999", x, 0, 6, 2, 1, 0, 0);
        PlateArm y = EdgeCallsTest.longTrips(9998, FAR);
        forecastDue("at 9998", y, 0, 500, 7, 7, 155);
    }

    private static void bestWayOfNone() {
        Due.sentence("Promise 16", "of several the lowest one");
        PlateArm x = new PlateArm();
        Due.due("without requests", x.bestWay(), 0);
        x.set(0, 3);
        Due.due("without requests, the setting 3", x.bestWay(), 0);
        x.request(3, 0, 0);
        Due.due("of one", x.bestWay(), 0);
        x.request(1, 2, FAR);
        // By 1 and 2: 2 reads the second one, 6 the first one. By 0 and 3: 6 and 14.
        Due.due("1 like 2", x.bestWay(), 1);
    }

    private static void bestWayFewest() {
        Due.sentence("Promise 16", "the fewest requests would be read late or given up in finish() (..), of "
                + "several that with the fewest ticks");
        PlateArm x = new PlateArm();
        x.request(3, 5, FAR);
        x.request(1, 2, FAR);
        Due.due("ticks by 0", x.finishBy(0, 0), 15);
        Due.due("ticks by 1", x.finishBy(1, 0), 12);
        Due.due("none is late", x.bestWay(), 1);
        x.undo();
        x.undo();
        x.request(3, 5, 5);
        x.request(1, 2, FAR);
        Due.due("ticks by 0", x.finishBy(0, 0), 15);
        Due.due("late by 0", x.finishBy(0, 2), 0);
        Due.due("ticks by 1", x.finishBy(1, 0), 12);
        Due.due("late by 1", x.finishBy(1, 2), 1);
        Due.due("one is late by 1 and 2", x.bestWay(), 0);
    }

    private static void bestWayLateAndGivenUp() {
        Due.sentence("Promise 16", "read late or given up");
        PlateArm x = new PlateArm();
        x.set(3, 1);
        x.request(2, 0, 30);
        x.request(1, 2, 2);
        // By the number the second one is given up in 4; by the others it is read in 2.
        Due.due("late by 0", x.finishBy(0, 2), 0);
        Due.due("ticks by 0", x.finishBy(0, 0), 7);
        Due.due("ticks by 1", x.finishBy(1, 0), 7);
        Due.due("one given up is one too many", x.bestWay(), 1);
        x.undo();
        x.undo();
        x.set(3, 0);
        x.request(2, 0, 6);
        x.request(1, 2, 2);
        Due.due("one late is one too many", x.bestWay(), 1);
    }

    private static void bestWayLeftBehind() {
        Due.sentence("Promise 16", "(those that are left behind it count as neither)");
        PlateArm x = EdgeCallsTest.longTrips(20, 0);
        for (int way = 1; way < 4; way++) {
            Due.due("late by " + way, x.finishBy(way, 2), 1);
            Due.due("ticks by " + way, x.finishBy(way, 0) < 500 ? 1 : 0, 1);
        }
        x.pass(2);
        Due.due("by 0 the late one is left behind the 500th tick", x.bestWay(), 0);
        x.pass(1);
        Due.due("by 0 the late one is read in the 500th tick", x.bestWay() > 0 ? 1 : 0, 1);
    }

    private static void heatInRange() {
        Due.sentence("Promise 17", "ticks: 0 to 99; throws IllegalArgumentException");
        PlateArm x = EdgeCallsTest.hot(0);
        for (int ticks : new int[] {-1, 100, MIN, MAX}) {
            Due.refused(x, ARGUMENT, "heatIn(" + ticks + ")", () -> x.heatIn(ticks));
        }
        for (int ticks : new int[] {0, 1, 98, 99}) {
            Due.due("heatIn(" + ticks + ")", x.heatIn(ticks), 200 - ticks);
        }
    }

    private static void heatInNoTicks() {
        Due.sentence("Promise 17", "Returns the heat that the motor would have behind some ticks");
        PlateArm x = new PlateArm();
        Due.due("heatIn(0) of a new one", x.heatIn(0), 0);
        Due.due("heatIn(99) of a new one", x.heatIn(99), 0);
        x.request(1, 5, FAR);
        int[] wants = {0, 1, 3, 2, 1, 0, 0};
        for (int ticks = 0; ticks < wants.length; ticks++) {
            Due.due("heatIn(" + ticks + ")", x.heatIn(ticks), wants[ticks]);
        }
        x.pass(2);
        Due.due("heatIn(0)", x.heatIn(0), 3);
    }

    private static void heatInBeyondTheLastTick() {
        Due.sentence("Promise 17", "(also beyond the tick 9999)");
        PlateArm x = EdgeCallsTest.hot(9979);
        Due.due("tick", x.whole(6), 9999);
        Due.due("heatIn(0)", x.heatIn(0), 200);
        Due.due("heatIn(1)", x.heatIn(1), 199);
        Due.due("heatIn(99)", x.heatIn(99), 101);
    }

    private static void widestOfFew() {
        Due.sentence("Promise 18", "0 with fewer than two");
        PlateArm x = new PlateArm();
        Due.due("of none", x.widest(), 0);
        x.request(11, 0, FAR);
        Due.due("of one", x.widest(), 0);
        x.request(11, 1, FAR);
        Due.due("of two on a track", x.widest(), 0);
        x.request(10, 0, FAR);
        Due.due("of two tracks", x.widest(), 1);
        x.cancel(0);
        Due.due("of two", x.widest(), 1);
        x.cancel(1);
        Due.due("of the last one", x.widest(), 0);
        x.cancel(2);
        Due.due("of none again", x.widest(), 0);
    }

    private static void widestOfThePlate() {
        Due.sentence("Promise 18", "Returns the greatest difference of the tracks of two requests");
        PlateArm x = new PlateArm();
        x.plate(24, 3);
        x.request(0, 2, FAR);
        for (int i = 1; i < 11; i++) {
            x.request(12, 2, FAR);
        }
        Due.due("the first and the middle track", x.widest(), 12);
        x.request(23, 2, FAR);
        Due.due("the first and the last track", x.widest(), 23);
        x.cancel(0);
        Due.due("the middle and the last track", x.widest(), 11);
        x.request(1, 2, FAR);
        Due.due("the last one told is the lowest", x.widest(), 22);
    }

    private static void reasonOfNone() {
        goneDue("Promise 19", "reason", (x, request) -> x.reason(request), 4);
    }

    private static void reasonNothing() {
        Due.sentence("Promise 19", "Returns 0 nothing does");
        PlateArm x = new PlateArm();
        x.request(0, 0, 0);
        x.request(0, 0, FAR);
        Due.due("the target", x.reason(0), 0);
        Due.due("another one of its sector", x.reason(1), 0);
        Due.due("pass(1)", x.pass(1), 2);
        x.set(3, 1);
        Due.passTo(x, 6);
        x.request(0, 0, 0);
        Due.due("read before it is given up", x.reason(2), 0);
        Due.due("pass(1)", x.pass(1), 1);
    }

    private static void reasonMoves() {
        Due.sentence("Promise 19", "1 the arm moves when the tick begins");
        PlateArm x = new PlateArm();
        x.request(1, 2, FAR);
        x.request(1, 1, FAR);
        x.request(3, 1, FAR);
        x.pass(1);
        Due.due("over its track, another sector", x.reason(0), 1);
        Due.due("over its track and sector, it brakes", x.reason(1), 1);
        Due.due("over another track", x.reason(2), 1);
        x.pass(1);
        Due.due("still again", x.reason(0), 0);
    }

    private static void reasonAnotherTrack() {
        Due.sentence("Promise 19", "the first of these that applies: .. 2 it is over another track");
        PlateArm x = new PlateArm();
        x.request(1, 0, FAR);
        x.request(11, 5, FAR);
        x.request(0, 0, FAR);
        Due.due("one track off, the sector under the arm", x.reason(0), 2);
        Due.due("the last track, another sector", x.reason(1), 2);
        Due.due("the track that the arm leaves", x.reason(2), 3);
        x.cancel(0);
        x.cancel(1);
        Due.due("the track that it does not leave", x.reason(2), 0);
    }

    private static void reasonLeaves() {
        Due.sentence("Promise 19", "3 the arm leaves the track in this tick");
        PlateArm x = new PlateArm();
        x.request(0, 0, 50);
        x.request(0, 3, 60);
        x.request(1, 0, 40);
        int[] target = {0, 0, 0, 3};
        int[] another = {4, 4, 4, 3};
        for (int way = 0; way < 4; way++) {
            x.set(0, way);
            Due.due("the sector under the arm, by the way " + way, x.reason(0), target[way]);
            Due.due("another sector, by the way " + way, x.reason(1), another[way]);
        }
        Due.due("by the way 3 nothing is read", x.pass(1), 0);
        PlateArm down = EdgeTermsTest.sweepingDown();
        down.request(6, 0, FAR);
        down.request(5, 1, FAR);
        Due.due("by the way 1", down.reason(3), 0);
        down.set(0, 0);
        Due.due("by the way 0", down.reason(3), 3);
    }

    private static void reasonDoesNotLeave() {
        Due.sentence("Promise 19", "3 the arm leaves the track in this tick");
        PlateArm x = new PlateArm();
        x.set(1, 4);
        x.set(2, 5);
        x.request(1, 0, FAR);
        x.pass(1);
        x.request(1, 2, FAR);
        x.request(1, 3, FAR);
        x.request(0, 0, 0);
        x.cancel(0);
        x.pass(1);
        x.set(0, 3);
        Due.armDue(x, "it does not rest", 1, 0, 4, 0, 1, 2);
        Due.due("it leaves", x.reason(1), 3);
        x.undo();
        x.undo();
        x.set(1, 5);
        x.pass(1);
        x.set(0, 3);
        Due.armDue(x, "it rests", 1, 0, 5, 1, 1, 2);
        Due.due("it rests over the sector", x.reason(1), 0);
        Due.due("it rests over another sector", x.reason(2), 4);
        x.pass(3);
        Due.armDue(x, "the rest has ended", 1, 0, 2, 0, 1, 5);
        x.request(1, 5, FAR);
        Due.due("it leaves again", x.reason(4), 3);
    }

    private static void reasonAnotherSector() {
        Due.sentence("Promise 19", "4 another sector is under the arm");
        PlateArm x = new PlateArm();
        for (int sector = 0; sector < 6; sector++) {
            x.request(0, sector, FAR);
        }
        x.pass(5);
        Due.due("the last sector", x.reason(5), 0);
        x.request(0, 0, FAR);
        x.request(0, 4, FAR);
        Due.due("the next sector", x.reason(6), 4);
        Due.due("the sector before", x.reason(7), 4);
        x.pass(1);
        Due.due("behind the turn", x.reason(6), 0);
        Due.due("the sector before, behind the turn", x.reason(7), 4);
    }

    private static void nothingChanges() {
        Due.sentence("The public face", "what if, which changes nothing");
        PlateArm x = EdgeCallsTest.longTrips(20, 0);
        PlateArm y = EdgeCallsTest.longTrips(20, 0);
        x.readIn(LAST);
        x.heatIn(99);
        x.bestWay();
        x.widest();
        x.reason(LAST);
        for (int way = 0; way < 4; way++) {
            x.target(way);
            x.finishBy(way, 4);
        }
        Due.due("digest()", x.digest(), y.digest());
        for (int left = 3; left >= 0; left--) {
            Due.due("undo()", x.undo(), left);
            y.undo();
            Due.due("digest() behind undo()", x.digest(), y.digest());
        }
    }
}
