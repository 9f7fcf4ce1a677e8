/** The boundary cases of texts of commands and of the promises 20 to 22, sentence by sentence. */
final class EdgeTextTest {
    private static final Class<IllegalArgumentException> ARGUMENT = IllegalArgumentException.class;
    private static final Class<IllegalStateException> STATE = IllegalStateException.class;
    private static final int FAR = 9999;
    private static final String[] WHOLE = {"plate 4 3;", "read 0 0 0;", "cancel 0;", "set 0 1;", "ticks 1;"};

    public static void main(String[] args) {
        typeRange();
        typeWhenFull();
        clearOfNone();
        emptyTexts();
        words();
        numbersOfWords();
        digits();
        spacesInFrontOfNumbers();
        semicolons();
        otherSpaces();
        endsTooSoon();
        unknownWords();
        wordsInTheirPlace();
        rangesAreNoFault();
        faultAtTheLastByte();
        aFaultDoesNothing();
        stopsAtTheFirst();
        stopsInTheFullPlate();
        stopsAtTheLastTick();
        stopsAtARequestThatIsGone();
        runsWithinARun();
        savesOneState();
        theTextStays();
        longestRun();
        Due.end("EdgeTextTest");
    }

    /** What runCommands() of this text answers on a new object with one request. */
    private static void runDue(String text, int want) {
        PlateArm x = new PlateArm();
        x.request(11, 5, FAR);
        Due.type(x, text);
        long before = x.digest();
        int states = want < 0 ? 1 : 2;
        Due.due("runCommands() of '" + text + "'", x.runCommands(), want);
        Due.due("undo() behind '" + text + "'", x.undo(), states - 1);
        if (want >= 0) {
            Due.due("digest() behind undo() of '" + text + "'", x.digest(), before);
        }
    }

    private static void faultDue(String text, int fault) {
        runDue(text, -10 - fault);
    }

    private static void typeRange() {
        Due.sentence("Promise 20", "value: 0 to 127; throws IllegalArgumentException");
        PlateArm x = new PlateArm();
        for (int value : new int[] {-1, 128, 255, 256, 32 + 256, Integer.MIN_VALUE, Integer.MAX_VALUE}) {
            Due.refused(x, ARGUMENT, "type(" + value + ")", () -> x.type(value));
        }
        Due.due("type(0)", x.type(0), 1);
        Due.due("the fault of the byte 0", x.runCommands(), -10);
        Due.due("type(127)", x.type(127), 2);
        Due.refused(x, ARGUMENT, "type(128)", () -> x.type(128));
        Due.due("clearCommands()", x.clearCommands(), 2);
        Due.due("type(127), the first byte", x.type(127), 1);
        Due.due("the fault of the byte 127", x.runCommands(), -10);
    }

    private static void typeWhenFull() {
        Due.sentence("Promise 20", "Throws IllegalStateException if the text has 150 bytes");
        PlateArm x = new PlateArm();
        for (int i = 1; i <= 149; i++) {
            Due.due("type(32)", x.type(32), i);
        }
        Due.refused(x, ARGUMENT, "type(128) behind 149", () -> x.type(128));
        Due.due("type(32) behind 149", x.type(32), 150);
        Due.refused(x, STATE, "type(32) behind 150", () -> x.type(32));
        Due.refused(x, STATE, "type(127) behind 150", () -> x.type(127));
        Due.refused(x, ARGUMENT, "type(128) behind 150", () -> x.type(128));
        Due.refused(x, ARGUMENT, "type(-1) behind 150", () -> x.type(-1));
        Due.due("the text is as it was", x.runCommands(), 0);
        Due.due("clearCommands()", x.clearCommands(), 150);
        Due.due("type(32) again", x.type(32), 1);
    }

    private static void clearOfNone() {
        Due.sentence("Promise 21", "Empties the command text. Returns the length that it had");
        PlateArm x = new PlateArm();
        Due.due("of none", x.clearCommands(), 0);
        Due.type(x, "set 0 1;x");
        Due.due("of nine bytes", x.clearCommands(), 9);
        Due.due("whole(17)", x.whole(17), 0);
        Due.due("of none again", x.clearCommands(), 0);
        Due.due("the old bytes are gone", x.runCommands(), 0);
        Due.type(x, " ");
        Due.due("the old bytes are gone behind a new one", x.runCommands(), 0);
    }

    private static void emptyTexts() {
        Due.sentence("Terms", "perhaps none: a text that is empty, or has spaces alone, has no fault");
        runDue("", 0);
        runDue(" ", 0);
        runDue("  ", 0);
        runDue(" ".repeat(150), 0);
        faultDue(";", 0);
        faultDue("  ;", 2);
    }

    private static void words() {
        Due.sentence("Terms", "The words are: plate t s, read t s d, cancel r, set w v, ticks n");
        for (String command : WHOLE) {
            runDue(command, 1);
            String word = command.substring(0, command.indexOf(' '));
            String numbers = command.substring(word.length());
            faultDue(word.substring(0, word.length() - 1) + numbers, 0);
            faultDue(word.substring(1) + numbers, 0);
            for (String letter : new String[] {"a", "s", "z"}) {
                faultDue(word + letter + numbers, 0);
                faultDue(letter + word + numbers, 0);
            }
            faultDue(word + word + numbers, 0);
            for (int i = 0; i < word.length(); i++) {
                faultDue(word.substring(0, i) + "z" + word.substring(i + 1) + numbers, 0);
            }
        }
        Due.sentence("Terms", "a word of letters a to z");
        for (char c : new char[] {'A', 'Z', '`', '{', '@', '[', '0', '_', 0, 127}) {
            faultDue(c + "et 0 1;", 0);
            faultDue("set" + c + " 0 1;", 3);
            faultDue("se" + c + " 0 1;", 0);
        }
        faultDue("a 0 1;", 0);
        faultDue("z 0 1;", 0);
    }

    private static void numbersOfWords() {
        Due.sentence("Terms", "followed by its numbers");
        faultDue("plate;", 5);
        faultDue("plate ;", 6);
        faultDue("plate 4;", 7);
        faultDue("plate 4 ;", 8);
        runDue("plate 4 3;", 1);
        faultDue("plate 4 3 2;", 10);
        faultDue("read;", 4);
        faultDue("read 0 0;", 8);
        runDue("read 0 0 0;", 1);
        faultDue("read 0 0 0 0;", 11);
        faultDue("cancel;", 6);
        faultDue("cancel ;", 7);
        runDue("cancel 0;", 1);
        faultDue("cancel 0 0;", 9);
        faultDue("set;", 3);
        faultDue("set 0;", 5);
        runDue("set 0 1;", 1);
        faultDue("set 0 1 1;", 8);
        faultDue("ticks;", 5);
        runDue("ticks 1;", 1);
        faultDue("ticks 1 1;", 8);
        faultDue("set 0 x;", 6);
        faultDue("set x 0;", 4);
        faultDue("set 0 1 x;", 8);
        faultDue("set 0x 1;", 5);
        faultDue("set - 1;", 4);
        faultDue("set 0 -1;", 6);
        faultDue("set 0 +1;", 6);
        faultDue("set 0,1;", 5);
    }

    private static void digits() {
        Due.sentence("Terms", "each of one to four digits (zeros in front are allowed; a fifth digit cannot "
                + "stand)");
        runDue("set 0 1;", 1);
        runDue("set 00 01;", 1);
        runDue("set 000 001;", 1);
        runDue("set 0000 0001;", 1);
        faultDue("set 00000 1;", 8);
        faultDue("set 0 00001;", 10);
        faultDue("set 0 000000001;", 10);
        faultDue("set 0 12345;", 10);
        faultDue("ticks 00001;", 10);
        faultDue("read 0 0 99999;", 13);
        faultDue("cancel 00000", 11);
        runDue("read 0 0 9999;cancel 0001;", 2);
        runDue("read 0000 0000 0000;", 1);
        Due.sentence("Terms", "digits");
        faultDue("set / 1;", 4);
        faultDue("set : 1;", 4);
        faultDue("set 0/ 1;", 5);
        faultDue("set 0: 1;", 5);
        for (int value : new int[] {0, 9, 10, 99, 100, 999, 1000, 9999}) {
            PlateArm x = new PlateArm();
            Due.type(x, "read 0 0 " + value + ";");
            Due.due("runCommands()", x.runCommands(), 1);
            Due.due("the deadline", x.requestOf(0, 2), value);
        }
    }

    private static void spacesInFrontOfNumbers() {
        Due.sentence("Terms", "with at least one space (byte 32) in front");
        faultDue("set0 1;", 3);
        runDue("set 0 1;", 1);
        runDue("set  0 1;", 1);
        runDue("set 0     1;", 1);
        runDue("set" + " ".repeat(143) + "0 1;", 1);
        faultDue("set" + " ".repeat(144) + "0 1", 150);
        for (int odd : new int[] {0, 9, 10, 13, 31, 33, 127}) {
            faultDue("set" + (char) odd + "0 1;", 3);
            faultDue("set 0" + (char) odd + "1;", 5);
        }
    }

    private static void semicolons() {
        Due.sentence("Terms", "and a semicolon");
        faultDue("set 0 1 set 0 1;", 8);
        faultDue("set 0 1set 0 1;", 7);
        faultDue("set 0 1:", 7);
        faultDue("set 0 1<", 7);
        faultDue("set 0 1;;", 8);
        faultDue("set 0 1; ;", 9);
        faultDue(";set 0 1;", 0);
        runDue("set 0 1;set 0 2;", 2);
    }

    private static void otherSpaces() {
        Due.sentence("Terms", "Spaces may also stand in front of a command, in front of a semicolon, and at "
                + "the end");
        runDue(" set 0 1;", 1);
        runDue("   set 0 1;", 1);
        runDue("set 0 1 ;", 1);
        runDue("set 0 1   ;", 1);
        runDue("set 0 1; ", 1);
        runDue("set 0 1;   ", 1);
        runDue(" set 0 1 ; set 0 2 ; ", 2);
        runDue("cancel 0   ;", 1);
        faultDue("se t 0 1;", 0);
        faultDue("s et 0 1;", 0);
        faultDue("set 0 1 2;", 8);
        faultDue("\tset 0 1;", 0);
        faultDue("set 0 1\t;", 7);
        faultDue("set 0 1;\t", 8);
        faultDue("set 0 1;\n", 8);
    }

    private static void endsTooSoon() {
        Due.sentence("Terms", "or the length of the text if it ends too soon");
        for (String command : WHOLE) {
            int word = command.indexOf(' ');
            for (int end = word; end < command.length(); end++) {
                faultDue(command.substring(0, end), end);
                faultDue("set 0 1; " + command.substring(0, end), 9 + end);
            }
            faultDue(command.substring(0, command.length() - 1) + "  ", command.length() + 1);
        }
    }

    private static void unknownWords() {
        Due.sentence("Terms", "A word that is not one of these is at fault with its first byte, found when "
                + "the word is complete: when a byte that is none of a to z, or the end of the text, "
                + "follows it");
        for (String command : WHOLE) {
            int word = command.indexOf(' ');
            for (int end = 1; end < word; end++) {
                faultDue(command.substring(0, end), 0);
                faultDue(command.substring(0, end) + ";", 0);
                faultDue("set 0 1;  " + command.substring(0, end), 10);
            }
        }
        faultDue("x", 0);
        faultDue("xyz", 0);
        faultDue("xyz 0", 0);
        faultDue("xyz;", 0);
        faultDue("xyz0", 0);
        faultDue("setX", 3);
        faultDue("setx", 0);
        faultDue("sex\u0000", 0);
        faultDue("  zz", 2);
        faultDue("set 0 1;zz", 8);
        faultDue("request 0 0 0;", 0);
        faultDue("pass 1;", 0);
        faultDue("undo;", 0);
        faultDue("z".repeat(150), 0);
        faultDue("set 0 1;" + "z".repeat(142), 8);
    }

    private static void wordsInTheirPlace() {
        Due.sentence("Terms", "The fault of a command text is the index of the first byte that cannot stand "
                + "at its place");
        faultDue("set 0 1; 5", 9);
        faultDue("set 0 1; set set 0 1;", 13);
        faultDue("set 0 set 0 1;", 6);
        faultDue("0 set 1;", 0);
        faultDue("set 0 1; zz; set 00000", 9);
        faultDue("set 00000 zz;", 8);
    }

    private static void rangesAreNoFault() {
        Due.sentence("Terms", "(That a number is out of its range is no fault.)");
        for (String text : new String[] {"plate 3 3;", "plate 25 3;", "plate 4 2;", "plate 4 13;",
            "plate 9999 9999;", "read 12 0 0;", "read 0 6 0;", "read 9999 9999 9999;", "cancel 1;",
            "cancel 9999;", "set 4 0;", "set 9999 9999;", "set 0 4;", "set 1 21;", "set 2 4;", "set 2 201;",
            "set 3 101;", "ticks 0;", "ticks 100;", "ticks 9999;"}) {
            runDue(text, 0);
            runDue("set 0 1;" + text + "set 0 2;", 1);
        }
        runDue("plate 4 3;plate 24 12;", 2);
        runDue("read 11 5 9999;", 1);
        runDue("set 0 3;set 1 20;set 2 5;set 2 200;set 3 100;", 5);
        runDue("ticks 1;ticks 99;", 2);
    }

    private static void faultAtTheLastByte() {
        Due.sentence("Promise 22", "-10 minus the fault if it has one");
        String commands = "set 0 1;".repeat(18);
        runDue("x", -10);
        runDue(commands + "ticks", -159);
        runDue(commands + "ticks ", -160);
        runDue(commands + "set 0 ", -160);
        runDue(commands + "     ;", -159);
        runDue(commands + "      ", 18);
        runDue(commands + "set 0;", -159);
        runDue(commands + "     s", -159);
    }

    private static void aFaultDoesNothing() {
        Due.sentence("Terms", "if it has a fault, nothing is done");
        PlateArm x = new PlateArm();
        x.request(3, 0, FAR);
        Due.type(x, "plate 4 3;read 0 0 0;ticks 9;set 0 1;cancel 0;set 0 1");
        long before = x.digest();
        Due.due("runCommands()", x.runCommands(), -63);
        Due.due("digest()", x.digest(), before);
        Due.sentence("Promise 22", "Undoable, if it has no fault");
        Due.due("undo() of the request", x.undo(), 0);
        Due.refused(x, STATE, "undo()", x::undo);
    }

    private static void stopDue(PlateArm x, String text, int want, int ticks) {
        int tick = x.whole(6);
        x.clearCommands();
        Due.type(x, text);
        Due.due("runCommands() of '" + text + "'", x.runCommands(), want);
        Due.due("ticks of '" + text + "'", x.whole(6) - tick, ticks);
    }

    private static void stopsAtTheFirst() {
        Due.sentence("Terms", "until one of them would throw an exception, which is not thrown; those before "
                + "it stay done, and they alone count");
        String[] wrong = {"plate 3 6;", "plate 12 13;", "read 12 0 0;", "read 0 6 0;", "cancel 0;",
            "set 4 0;", "set 1 21;", "ticks 0;", "ticks 100;"};
        for (String command : wrong) {
            PlateArm x = new PlateArm();
            stopDue(x, "ticks 1;ticks 2;" + command + "ticks 4;", 2, 3);
            stopDue(x, command + "ticks 4;", 0, 0);
            stopDue(x, "ticks 5;" + command, 1, 5);
        }
    }

    private static void stopsInTheFullPlate() {
        Due.sentence("Terms", "until one of them would throw an exception");
        PlateArm x = new PlateArm();
        for (int i = 0; i < 11; i++) {
            x.request(11, i % 6, FAR);
        }
        stopDue(x, "read 0 5 0;read 0 5 0;ticks 1;", 1, 0);
        Due.due("requests", x.whole(7), 12);
        stopDue(x, "read 0 5 0;ticks 1;", 0, 0);
        stopDue(x, "cancel 11;read 0 5 0;read 0 5 0;", 2, 0);
        Due.due("the latest number", x.requestAt(11), 12);
    }

    private static void stopsAtTheLastTick() {
        Due.sentence("Terms", "until one of them would throw an exception");
        PlateArm x = new PlateArm();
        Due.passTo(x, 9900);
        stopDue(x, "ticks 98;ticks 2;ticks 1;", 1, 98);
        stopDue(x, "ticks 1;ticks 1;", 1, 1);
        Due.due("tick", x.whole(6), 9999);
        stopDue(x, "ticks 1;", 0, 0);
        stopDue(x, "plate 12 6;ticks 99;", 2, 99 - 9999);
    }

    private static void stopsAtARequestThatIsGone() {
        Due.sentence("Terms", "until one of them would throw an exception");
        PlateArm x = new PlateArm();
        stopDue(x, "read 0 0 9;ticks 1;cancel 0;ticks 1;", 2, 1);
        stopDue(x, "read 0 0 9;cancel 1;cancel 1;ticks 1;", 2, 0);
        stopDue(x, "read 3 0 9;plate 12 6;cancel 2;ticks 1;", 2, -1);
        stopDue(x, "plate 4 3;read 4 0 0;ticks 1;", 1, 0);
        stopDue(x, "plate 4 3;read 3 2 0;read 3 3 0;ticks 1;", 2, 0);
    }

    private static void runsWithinARun() {
        Due.sentence("Terms", "the commands are carried out in their order");
        PlateArm x = new PlateArm();
        Due.type(x, "plate 24 12;read 0 1 0;read 23 11 9999;set 0 2;set 1 20;set 2 5;set 3 1;ticks 2;read 0 "
                + "0 0;cancel 1;ticks 1;");
        Due.due("runCommands()", x.runCommands(), 11);
        // 1 reads 0, late; 2 gives up 2.
        Due.wholeDue(x, "behind", 24, 12, 2, 20, 5, 1, 3, 0, 3, 1, 1, 1, 0, 0, 0, 0, 0, x.whole(17));
        Due.loggedDue(x, 0, 0, 0, 1, 1, 1);
    }

    private static void savesOneState() {
        Due.sentence("Terms", "A run saves one state, the one from before it; its commands save none");
        PlateArm x = new PlateArm();
        x.set(1, 10);
        x.set(1, 11);
        Due.type(x, "set 1 1;set 1 2;ticks 3;plate 4 3;read 0 0 0;cancel 0;");
        long before = x.digest();
        Due.due("runCommands()", x.runCommands(), 6);
        Due.due("undo() of the run", x.undo(), 2);
        Due.due("digest()", x.digest(), before);
        Due.due("undo() of set(1, 11)", x.undo(), 1);
        Due.due("brake", x.whole(3), 10);
        x.clearCommands();
        Due.due("runCommands() of none", x.runCommands(), 0);
        Due.due("undo() of a run of none", x.undo(), 1);
        Due.type(x, "set 1 21;");
        Due.due("runCommands() that stops at once", x.runCommands(), 0);
        Due.due("undo() of it", x.undo(), 1);
        Due.due("brake", x.whole(3), 10);
    }

    private static void theTextStays() {
        Due.sentence("Promise 22", "Runs the command text, which stays as it is");
        PlateArm x = new PlateArm();
        Due.type(x, "plate 5 4;set 1 7; read 4 3 1 ;");
        for (int i = 0; i < 6; i++) {
            Due.due("runCommands()", x.runCommands(), 3);
            Due.due("whole(17)", x.whole(17), 31);
        }
        Due.type(x, "read 4 3 1");
        for (int i = 0; i < 2; i++) {
            Due.due("runCommands() with a fault", x.runCommands(), -51);
            Due.due("whole(17)", x.whole(17), 41);
        }
        x.undo();
        Due.due("the text behind undo()", x.runCommands(), -51);
        x.type(';');
        Due.due("runCommands()", x.runCommands(), 4);
    }

    private static void longestRun() {
        Due.sentence("Terms", "The command text has at most 150 bytes");
        PlateArm x = new PlateArm();
        Due.type(x, "set 1 0;".repeat(17));
        Due.type(x, "set 1 0019  ;");
        Due.due("whole(17)", x.whole(17), 149);
        x.type(' ');
        Due.refused(x, STATE, "type(32)", () -> x.type(32));
        Due.due("runCommands()", x.runCommands(), 18);
        Due.due("brake", x.whole(3), 19);
    }
}
