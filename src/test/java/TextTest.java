/** Promises 20 to 24: type, clearCommands, runCommands, undo, digest. */
final class TextTest {
    private static final Class<IllegalArgumentException> ARGUMENT = IllegalArgumentException.class;
    private static final Class<IllegalStateException> STATE = IllegalStateException.class;

    public static void main(String[] args) {
        type();
        clearCommands();
        faults();
        noFaults();
        runCommands();
        stops();
        oneStateForARun();
        longestText();
        undo();
        undoRestoresAll();
        digest();
        Due.end("TextTest");
    }

    private static void type() {
        PlateArm x = new PlateArm();
        for (int wrong : new int[] {-1, 128, Integer.MIN_VALUE, Integer.MAX_VALUE}) {
            Due.refused(x, ARGUMENT, "type(" + wrong + ")", () -> x.type(wrong));
        }
        for (int i = 1; i <= 150; i++) {
            Due.due("type", x.type(i % 128), i);
        }
        Due.due("whole(17)", x.whole(17), 150);
        Due.refused(x, STATE, "type(0) behind 150", () -> x.type(0));
        Due.refused(x, ARGUMENT, "type(128) behind 150", () -> x.type(128));
        Due.throwsDue(STATE, "undo() behind typing", x::undo);
    }

    private static void clearCommands() {
        PlateArm x = new PlateArm();
        Due.due("clearCommands() of none", x.clearCommands(), 0);
        Due.type(x, "set 0 1;");
        Due.due("clearCommands()", x.clearCommands(), 8);
        Due.due("whole(17)", x.whole(17), 0);
        Due.due("clearCommands() again", x.clearCommands(), 0);
        Due.due("type(65)", x.type(65), 1);
        Due.due("runCommands()", x.runCommands(), -10);
        Due.due("clearCommands()", x.clearCommands(), 1);
        Due.due("runCommands() of none", x.runCommands(), 0);
        Due.due("undo()", x.undo(), 0);
    }

    private static void faultDue(String text, int want) {
        PlateArm x = new PlateArm();
        x.request(0, 0, 0);
        Due.type(x, text);
        long before = x.digest();
        Due.due("'" + text + "': runCommands()", x.runCommands(), -10 - want);
        Due.due("'" + text + "': digest()", x.digest(), before);
    }

    private static void faults() {
        faultDue("read", 4);
        faultDue("read ", 5);
        faultDue("read 0", 6);
        faultDue("read 0 1", 8);
        faultDue("read 0 1 2", 10);
        faultDue("read 0 1 2 ", 11);
        faultDue("read 0 1;", 8);
        faultDue("read 0 1 ;", 9);
        faultDue("read 0 1 2 3;", 11);
        faultDue("read 0 1 2x", 10);
        faultDue("read0 1 2;", 4);
        faultDue("read;", 4);
        faultDue("read ;", 5);
        faultDue("read\t0 1 2;", 4);
        faultDue("read x", 5);
        faultDue("read -1 0 0;", 5);
        faultDue("plat", 0);
        faultDue("plat 4 3;", 0);
        faultDue("plates 4 3;", 0);
        faultDue("platE 4 3;", 0);
        faultDue("Plate 4 3;", 0);
        faultDue(";", 0);
        faultDue(" ;", 1);
        faultDue("  x", 2);
        faultDue("4 3;", 0);
        faultDue("set 0 1;;", 8);
        faultDue("set 0 1; pass 4;", 9);
        faultDue("set 0 1;ticks 4", 15);
        faultDue("set 0 1;tick", 8);
        faultDue("set 0 1;ticks", 13);
        faultDue("set 00001 1;", 8);
        faultDue("set 0 12345;", 10);
        faultDue("set 0 1234", 10);
        faultDue("ticks 1 2;", 8);
        faultDue("cancel 0 0;", 9);
        faultDue("plate 4 3 2;", 10);
        faultDue("plate 4;", 7);
        faultDue("xlate 4 3;", 0);
        faultDue("platx 4 3;", 0);
        faultDue("setz 0 1;", 0);
        faultDue("z", 0);
        faultDue("aset 0 1;", 0);
        faultDue("set 0 1;\u0001", 8);
        faultDue("request 0 0 0;", 0);
        faultDue("set 0 1\u0000", 7);
        faultDue("\u007fset 0 1;", 0);
        faultDue("set 0 1;`", 8);
        faultDue("set 0 1;{", 8);
        faultDue("set /", 4);
        faultDue("set :", 4);
    }

    private static void doneDue(String text, int want) {
        PlateArm x = new PlateArm();
        Due.type(x, text);
        Due.due("'" + text + "': runCommands()", x.runCommands(), want);
        Due.due("'" + text + "': whole(17)", x.whole(17), text.length());
        Due.due("'" + text + "': undo()", x.undo(), 0);
    }

    private static void noFaults() {
        doneDue("", 0);
        doneDue(" ", 0);
        doneDue("     ", 0);
        doneDue("set 0 1;", 1);
        doneDue("  set   0   1  ;  ", 1);
        doneDue("set 0000 0001;", 1);
        doneDue("set 2 0200;set 1 0020;", 2);
        doneDue("ticks 99;", 1);
        doneDue("read 11 5 9999;cancel 0;", 2);
        doneDue("plate 24 12;read 23 11 0;", 2);
        doneDue("ticks 9999;", 0);
    }

    private static void runCommands() {
        PlateArm x = new PlateArm();
        Due.type(x, "plate 8 5;read 2 0 5; read 7 4 99 ;set 1 4;ticks 3;cancel 1;read 0 0 0;ticks 3;");
        Due.due("runCommands()", x.runCommands(), 8);
        // 0 starts, 1 steps, 2 brakes, 5 reads 0.
        Due.wholeDue(x, "run", 8, 5, 0, 4, 30, 0, 6, 1, 3, 1, 0, 0, 2, 1, 1, 0, 4, 79);
        Due.armDue(x, "run", 2, 0, 1, 0, 1, 1);
        Due.loggedDue(x, 0, 0, 2, 0, 5, 0);
        Due.requestDue(x, 2, 0, 0, 0, 3, 2, 1);
        Due.due("runCommands() again", x.runCommands(), 8);
        Due.wholeDue(x, "run again", 8, 5, 0, 4, 30, 0, 6, 1, 3, 1);
        Due.due("undo()", x.undo(), 1);
        Due.due("undo()", x.undo(), 0);
        Due.wholeDue(x, "undone", 12, 6, 0, 3, 30, 0, 0, 0, 0, 0, 0, 0, 0, 0, 0, 0, 0, 79);
    }

    private static void stopDue(PlateArm x, String text, int want, int ticks) {
        int tick = x.whole(6);
        x.clearCommands();
        Due.type(x, text);
        Due.due("'" + text + "': runCommands()", x.runCommands(), want);
        Due.due("'" + text + "': ticks", x.whole(6) - tick, ticks);
    }

    private static void stops() {
        PlateArm x = new PlateArm();
        stopDue(x, "ticks 2;plate 3 3;ticks 4;", 1, 2);
        stopDue(x, "ticks 2;plate 4 13;ticks 4;", 1, 2);
        stopDue(x, "ticks 2;read 12 0 0;ticks 4;", 1, 2);
        stopDue(x, "ticks 2;read 0 6 0;ticks 4;", 1, 2);
        stopDue(x, "ticks 2;cancel 0;ticks 4;", 1, 2);
        stopDue(x, "ticks 2;set 4 0;ticks 4;", 1, 2);
        stopDue(x, "ticks 2;set 2 4;ticks 4;", 1, 2);
        stopDue(x, "ticks 2;ticks 0;ticks 4;", 1, 2);
        stopDue(x, "ticks 2;ticks 100;ticks 4;", 1, 2);
        stopDue(x, "set 9999 9999;ticks 4;", 0, 0);
        for (int i = 0; i < 12; i++) {
            x.request(i, 5, 9999);
        }
        stopDue(x, "ticks 2;read 0 0 0;ticks 4;", 1, 2);
        for (int i = 0; i < 12; i++) {
            x.cancel(i);
        }
        for (int i = 0; i < 100; i++) {
            x.pass(99);
        }
        Due.due("tick", x.whole(6), 9920);
        stopDue(x, "ticks 78;ticks 2;ticks 1;", 1, 78);
        stopDue(x, "ticks 1;ticks 1;", 1, 1);
    }

    private static void oneStateForARun() {
        PlateArm x = new PlateArm();
        x.set(0, 1);
        Due.type(x, "set 0 2;set 0 3;set 1 1;set 1 2;set 1 3;set 1 4;");
        Due.due("runCommands()", x.runCommands(), 6);
        Due.due("undo()", x.undo(), 1);
        Due.due("way", x.whole(2), 1);
        Due.due("brake", x.whole(3), 3);
        x.clearCommands();
        Due.type(x, "set 0 4;");
        Due.due("runCommands() of none", x.runCommands(), 0);
        Due.due("undo() of a run of none", x.undo(), 1);
        Due.due("way", x.whole(2), 1);
        x.type('?');
        Due.due("runCommands() with a fault", x.runCommands(), -18);
        Due.due("undo() behind a fault", x.undo(), 0);
        Due.due("way", x.whole(2), 0);
    }

    private static void longestText() {
        PlateArm x = new PlateArm();
        for (int i = 0; i < 18; i++) {
            Due.type(x, "set 1 " + i % 10 + ";");
        }
        Due.type(x, "set 0 ");
        Due.due("whole(17)", x.whole(17), 150);
        Due.due("runCommands(), too short", x.runCommands(), -160);
        x.clearCommands();
        for (int i = 0; i < 18; i++) {
            Due.type(x, "set 1 " + i % 10 + ";");
        }
        Due.type(x, "      ");
        Due.due("runCommands() of eighteen", x.runCommands(), 18);
        Due.due("brake", x.whole(3), 7);
        x.clearCommands();
        Due.type(x, "a".repeat(150));
        Due.due("runCommands() of one word", x.runCommands(), -10);
    }

    private static void undo() {
        PlateArm x = new PlateArm();
        Due.refused(x, STATE, "undo()", x::undo);
        x.set(1, 10);
        x.set(1, 11);
        Due.due("undo()", x.undo(), 1);
        Due.due("brake", x.whole(3), 10);
        Due.due("undo()", x.undo(), 0);
        Due.due("brake", x.whole(3), 3);
        Due.refused(x, STATE, "undo()", x::undo);
        for (int i = 0; i < 7; i++) {
            x.set(1, i);
        }
        for (int left = 3; left >= 0; left--) {
            Due.due("undo()", x.undo(), left);
            Due.due("brake", x.whole(3), left + 2);
        }
        Due.refused(x, STATE, "undo()", x::undo);
        x.set(1, 2);
        Due.due("undo() of a call that changes nothing", x.undo(), 0);
        Due.throwsDue(ARGUMENT, "set(1, 21)", () -> x.set(1, 21));
        Due.refused(x, STATE, "undo() behind a refused call", x::undo);
    }

    private static void undoRestoresAll() {
        PlateArm x = new PlateArm();
        x.set(0, 1);
        x.set(1, 9);
        x.set(3, 3);
        x.plate(9, 5);
        for (int i = 0; i < 8; i++) {
            x.request(i * 7 % 9, i % 5, 4 * i);
        }
        x.pass(29);
        x.undo();
        x.request(8, 1, 60);
        x.undo();
        long before = x.digest();
        x.pass(29);
        Due.due("undo() of pass", x.undo(), 3);
        Due.due("digest() behind pass", x.digest(), before);
        x.finish();
        x.undo();
        Due.due("digest() behind finish", x.digest(), before);
        x.plate(24, 12);
        x.undo();
        Due.due("digest() behind plate", x.digest(), before);
        x.cancel(x.requestAt(3));
        x.undo();
        Due.due("digest() behind cancel", x.digest(), before);
        x.set(3, 0);
        x.undo();
        Due.due("digest() behind set", x.digest(), before);
        Due.type(x, "q");
        x.set(3, 0);
        x.undo();
        Due.due("the text stays", x.clearCommands(), 1);
        Due.due("digest() with the text of before", x.digest(), before);
    }

    private static void digest() {
        PlateArm x = new PlateArm();
        digestDue(x, 0);
        x.plate(10, 4);
        digestDue(x, 1);
        for (int i = 0; i < 12; i++) {
            x.request(i * 7 % 10, i % 4, 5 * i);
        }
        digestDue(x, 4);
        x.set(3, 20);
        x.set(1, 15);
        for (int i = 0; i < 12; i++) {
            x.pass(5);
            x.set(0, i % 4);
            Due.type(x, "set");
            digestDue(x, 4);
        }
        x.undo();
        digestDue(x, 3);
    }

    private static void digestDue(PlateArm x, int states) {
        long h = 31L * 43906L + states;
        for (int what = 0; what <= 17; what++) {
            h = 31L * h + x.whole(what);
        }
        for (int what = 0; what <= 5; what++) {
            h = 31L * h + x.arm(what);
        }
        for (int place = 0; x.requestAt(place) != PlateArm.NONE; place++) {
            h = 31L * h + x.requestAt(place);
            for (int what = 0; what <= 5; what++) {
                h = 31L * h + x.requestOf(x.requestAt(place), what);
            }
        }
        for (int back = 0; x.logged(back, 0) != PlateArm.NONE; back++) {
            for (int what = 0; what <= 4; what++) {
                h = 31L * h + x.logged(back, what);
            }
        }
        for (int way = 0; way <= 3; way++) {
            h = 31L * h + x.target(way);
            for (int what = 0; what <= 2; what++) {
                h = 31L * h + x.finishBy(way, what);
            }
        }
        h = 31L * h + x.bestWay();
        h = 31L * h + x.heatIn(10);
        h = 31L * h + x.widest();
        Due.due("digest()", x.digest(), h);
    }
}
