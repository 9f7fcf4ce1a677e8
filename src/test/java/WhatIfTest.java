/** Promises 13 to 19: target, readIn, finishBy, bestWay, heatIn, widest, reason. */
final class WhatIfTest {
    private static final Class<IllegalArgumentException> ARGUMENT = IllegalArgumentException.class;
    private static final Class<IndexOutOfBoundsException> INDEX = IndexOutOfBoundsException.class;

    public static void main(String[] args) {
        target();
        readIn();
        readInOfTwelve();
        readInThe500thTick();
        finishBy();
        finishByIsFinish(some());
        finishByIsFinish(someLate());
        finishByIsFinish(PlateTest.moreThan500());
        bestWay();
        heatIn();
        widest();
        reason();
        reasonWhileItRests();
        nothingChanges();
        Due.end("WhatIfTest");
    }

    private static PlateArm some() {
        PlateArm x = new PlateArm();
        x.set(0, 1);
        x.set(1, 9);
        x.set(2, 14);
        x.set(3, 30);
        x.request(4, 1, 9);
        x.pass(9);
        x.request(9, 2, 5);
        x.request(0, 3, 35);
        x.request(7, 4, 21);
        x.request(2, 5, 21);
        x.request(7, 0, 60);
        x.request(3, 0, 20);
        return x;
    }

    private static PlateArm someLate() {
        PlateArm x = some();
        for (int i = 0; i < 20; i++) {
            x.pass(2);
        }
        Due.due("late", x.whole(10) > 0 && x.whole(7) > 0 ? 1 : 0, 1);
        x.request(1, 2, 3);
        x.request(11, 4, 60);
        return x;
    }

    private static void target() {
        PlateArm x = new PlateArm();
        for (int way = 0; way < 4; way++) {
            Due.due("target(" + way + ") without requests", x.target(way), -1);
        }
        for (int wrong : new int[] {-1, 4, Integer.MIN_VALUE, Integer.MAX_VALUE}) {
            Due.refused(x, ARGUMENT, "target(" + wrong + ")", () -> x.target(wrong));
        }
        x.request(9, 0, 40);
        x.request(6, 0, 50);
        x.request(6, 0, 30);
        x.request(8, 0, 30);
        int[] first = {0, 1, 1, 2};
        for (int way = 0; way < 4; way++) {
            Due.due("target(" + way + ")", x.target(way), first[way]);
        }
        x.cancel(0);
        x.cancel(2);
        int[] then = {1, 1, 1, 3};
        for (int way = 0; way < 4; way++) {
            Due.due("target(" + way + ") then", x.target(way), then[way]);
        }
    }

    private static void readIn() {
        PlateArm x = new PlateArm();
        for (int wrong : new int[] {-1, 0, 1, Integer.MIN_VALUE, Integer.MAX_VALUE}) {
            Due.refused(x, INDEX, "readIn(" + wrong + ")", () -> x.readIn(wrong));
        }
        x.request(0, 0, 9);
        x.request(2, 0, 9);
        x.request(2, 1, 9);
        Due.due("readIn(0)", x.readIn(0), 0);
        // 1 starts, 2 steps, 3 brakes.
        Due.due("readIn(1)", x.readIn(1), 6);
        Due.due("readIn(2)", x.readIn(2), 7);
        x.set(0, 3);
        x.request(7, 0, 1);
        Due.due("readIn(0) by another way", x.readIn(0), 24);
        Due.due("readIn(3) by another way", x.readIn(3), 12);
        x.set(3, 5);
        Due.due("readIn(3), given up", x.readIn(3), -1);
        x.set(3, 11);
        Due.due("readIn(3), read in its last tick", x.readIn(3), 12);
        x.set(3, 10);
        Due.due("readIn(3), read before it is given up", x.readIn(3), 12);
        x.set(3, 9);
        Due.due("readIn(3), given up just before", x.readIn(3), -1);
        x.cancel(3);
        Due.refused(x, INDEX, "readIn(3)", () -> x.readIn(3));
    }

    /** The log keeps ten of them; all are read. */
    private static void readInOfTwelve() {
        PlateArm x = new PlateArm();
        for (int i = 0; i < 12; i++) {
            x.request(0, 4, 0);
        }
        for (int i = 0; i < 12; i++) {
            Due.due("readIn(" + i + ")", x.readIn(i), 4);
        }
        x.pass(5);
        for (int i = 0; i < 12; i++) {
            int gone = i;
            Due.throwsDue(INDEX, "readIn(" + i + ")", () -> x.readIn(gone));
        }
    }

    private static void readInThe500thTick() {
        PlateArm x = PlateTest.moreThan500();
        PlateArm y = PlateTest.moreThan500();
        for (int i = 0; i < 30 && y.whole(7) > 0; i++) {
            y.pass(30);
        }
        int read = y.logged(0, 3);
        Due.due("the last one", y.logged(0, 0), 20);
        Due.due("in more than 500 ticks", read - x.whole(6) > 501 ? 1 : 0, 1);
        Due.passTo(x, read - 510);
        while (x.whole(6) < read - 500) {
            Due.due("readIn(20) at " + x.whole(6), x.readIn(20), -1);
            x.pass(1);
        }
        Due.due("readIn(20), in the 501st tick", x.readIn(20), -1);
        Due.due("finishBy(0, 0), one is left", x.finishBy(0, 0), 500);
        Due.due("finishBy(0, 1), one is left", x.finishBy(0, 1), x.whole(7) - 1);
        x.pass(1);
        Due.due("readIn(20), in the 500th tick", x.readIn(20), read);
        Due.due("finishBy(0, 1), none is left", x.finishBy(0, 1), x.whole(7));
        Due.due("finish()", x.finish(), 500);
        Due.due("none is left", x.whole(7), 0);
    }

    private static void finishBy() {
        PlateArm x = new PlateArm();
        int[][] wrong = {{-1, 0}, {4, 0}, {0, -1}, {0, 5}, {Integer.MIN_VALUE, 0}, {0, Integer.MAX_VALUE}};
        for (int[] w : wrong) {
            Due.refused(x, ARGUMENT, "finishBy(" + w[0] + ", " + w[1] + ")", () -> x.finishBy(w[0], w[1]));
        }
        for (int what = 0; what < 5; what++) {
            Due.due("finishBy(2, " + what + ") without requests", x.finishBy(2, what), 0);
        }
        x.request(2, 0, 9);
        x.request(1, 2, 3);
        // By number: 0 starts, 1 steps, 2 brakes, 6 reads 0; 7 starts, 8 brakes, 14 reads 1.
        forecastDue(x, 0, 15, 2, 1, 3, 0);
        // By the nearest: 0 starts, 1 brakes, 2 reads 1; 3 starts, 4 brakes, 6 reads 0.
        forecastDue(x, 1, 7, 2, 0, 2, 3);
        forecastDue(x, 2, 7, 2, 0, 2, 3);
        forecastDue(x, 3, 7, 2, 0, 2, 3);
        x.pass(7);
        Due.due("one is read", x.whole(9), 1);
        forecastDue(x, 0, 8, 1, 1, 1, 0);
        x.set(3, 9);
        // Given up in the tick 13: 7 starts, 8 brakes.
        forecastDue(x, 0, 7, 0, 0, 1, 0);
    }

    private static void forecastDue(PlateArm x, int way, int... wants) {
        for (int what = 0; what < wants.length; what++) {
            Due.due("finishBy(" + way + ", " + what + ")", x.finishBy(way, what), wants[what]);
        }
    }

    /** What the forecast tells is what finish() does, and bestWay() weighs it. */
    private static void finishByIsFinish(PlateArm x) {
        long least = Long.MAX_VALUE;
        int best = -1;
        for (int way = 0; way < 4; way++) {
            int[] told = new int[5];
            for (int what = 0; what < 5; what++) {
                told[what] = x.finishBy(way, what);
            }
            int read = x.whole(9);
            int late = x.whole(10);
            int givenUp = x.whole(11);
            int steps = x.whole(12);
            x.set(0, way);
            int ticks = x.finish();
            Due.due("ticks by " + way, told[0], ticks);
            Due.due("read by " + way, told[1], x.whole(9) - read);
            Due.due("late by " + way, told[2], x.whole(10) - late);
            Due.due("steps by " + way, told[3], x.whole(12) - steps);
            Due.due("heat by " + way, told[4], x.arm(2));
            long cost = 1000L * (x.whole(10) - late + x.whole(11) - givenUp) + ticks;
            if (cost < least) {
                least = cost;
                best = way;
            }
            x.undo();
            x.undo();
        }
        Due.due("bestWay()", x.bestWay(), best);
    }

    private static void bestWay() {
        PlateArm x = new PlateArm();
        Due.due("bestWay() without requests", x.bestWay(), 0);
        x.request(8, 0, 9999);
        Due.due("bestWay() of one", x.bestWay(), 0);
        x.request(1, 0, 9999);
        Due.due("bestWay(), fewest ticks", x.bestWay(), 1);
        x.request(9, 0, 12);
        // Only the earliest deadline goes to 9 at once: 9 steps, brakes in 9, reads in 12.
        Due.due("bestWay(), fewest late", x.bestWay(), 3);
        x.set(0, 2);
        Due.due("bestWay(), whatever the setting", x.bestWay(), 3);
        PlateArm y = new PlateArm();
        y.set(3, 1);
        y.request(2, 0, 30);
        y.request(1, 2, 2);
        // By number the second one is given up, and it takes fewer ticks or as many.
        Due.due("finishBy(0, 0)", y.finishBy(0, 0), 7);
        Due.due("finishBy(0, 2)", y.finishBy(0, 2), 0);
        Due.due("finishBy(1, 0)", y.finishBy(1, 0), 7);
        Due.due("bestWay(), fewest given up", y.bestWay(), 1);
    }

    private static void heatIn() {
        PlateArm x = new PlateArm();
        for (int wrong : new int[] {-1, 100, Integer.MIN_VALUE, Integer.MAX_VALUE}) {
            Due.refused(x, ARGUMENT, "heatIn(" + wrong + ")", () -> x.heatIn(wrong));
        }
        x.request(2, 0, 99);
        int[] wants = {0, 1, 1, 3, 2, 1, 0, 0};
        for (int ticks = 0; ticks < wants.length; ticks++) {
            Due.due("heatIn(" + ticks + ")", x.heatIn(ticks), wants[ticks]);
        }
        x.set(1, 20);
        Due.due("heatIn(22)", x.heatIn(22), 1);
        Due.due("heatIn(99)", x.heatIn(99), 0);
        x.pass(3);
        Due.due("heatIn(0)", x.heatIn(0), 20);
        Due.due("heatIn(1)", x.heatIn(1), 19);
    }

    private static void widest() {
        PlateArm x = new PlateArm();
        Due.due("widest() of none", x.widest(), 0);
        x.request(7, 0, 9);
        Due.due("widest() of one", x.widest(), 0);
        x.request(7, 3, 9);
        Due.due("widest() of one track", x.widest(), 0);
        x.cancel(0);
        x.request(9, 0, 9);
        Due.due("widest() of two", x.widest(), 2);
        x.cancel(2);
        x.request(7, 0, 9);
        x.request(4, 0, 9);
        Due.due("widest() below", x.widest(), 3);
        x.request(11, 0, 9);
        Due.due("widest() on both sides", x.widest(), 7);
        x.request(0, 0, 9);
        Due.due("widest() of the plate", x.widest(), 11);
        x.cancel(6);
        x.cancel(4);
        Due.due("widest() again", x.widest(), 4);
    }

    private static void reason() {
        PlateArm x = new PlateArm();
        for (int wrong : new int[] {-1, 0, Integer.MIN_VALUE, Integer.MAX_VALUE}) {
            Due.refused(x, INDEX, "reason(" + wrong + ")", () -> x.reason(wrong));
        }
        x.request(0, 1, 9);
        x.request(0, 0, 9);
        x.request(3, 0, 9);
        Due.due("another sector", x.reason(0), 4);
        Due.due("nothing", x.reason(1), 0);
        Due.due("another track", x.reason(2), 2);
        x.set(0, 1);
        x.request(0, 5, 9);
        x.cancel(0);
        Due.due("pass(1)", x.pass(1), 1);
        Due.due("another sector", x.reason(3), 4);
        x.set(0, 0);
        Due.due("it leaves the track", x.reason(3), 3);
        Due.due("another track", x.reason(2), 2);
        x.pass(1);
        Due.due("it moves", x.reason(2), 1);
        Due.due("it moves", x.reason(3), 1);
        x.request(1, 2, 9);
        Due.due("it moves, over the track", x.reason(4), 1);
        x.cancel(2);
        Due.refused(x, INDEX, "reason(2)", () -> x.reason(2));
    }

    private static void reasonWhileItRests() {
        PlateArm x = new PlateArm();
        x.set(1, 20);
        x.set(2, 5);
        x.request(1, 3, 99);
        x.pass(2);
        x.request(1, 2, 99);
        x.cancel(0);
        x.request(5, 0, 99);
        x.request(1, 4, 99);
        x.set(0, 3);
        x.request(6, 0, 1);
        Due.armDue(x, "rests", 1, 0, 20, 1, 1, 2);
        Due.due("a rest keeps it on the track", x.reason(1), 0);
        Due.due("another sector", x.reason(3), 4);
        Due.due("another track", x.reason(2), 2);
        x.pass(18);
        Due.armDue(x, "rested", 1, 0, 2, 0, 1, 2);
        x.request(1, 2, 99);
        Due.due("behind the rest it leaves", x.reason(5), 3);
    }

    private static void nothingChanges() {
        PlateArm x = some();
        long before = x.digest();
        for (int i = 0; i < 4; i++) {
            x.target(i);
            for (int what = 0; what < 5; what++) {
                x.finishBy(i, what);
            }
        }
        for (int place = 0; x.requestAt(place) >= 0; place++) {
            x.readIn(x.requestAt(place));
            x.reason(x.requestAt(place));
        }
        x.bestWay();
        x.heatIn(99);
        x.widest();
        Due.due("digest() behind questions", x.digest(), before);
        Due.due("undo() behind questions", x.undo(), 3);
    }
}
