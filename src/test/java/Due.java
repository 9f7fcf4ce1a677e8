/** Counts the answers that are not the ones that are due. */
final class Due {
    interface Call {
        long answer();
    }

    private static int checked = 0;
    private static int wrong = 0;
    private static String sentence = "";

    private Due() {
    }

    /** Tells by which words of the document the answers from here on are due. */
    static void sentence(String place, String words) {
        sentence = place + ", '" + words + "': ";
    }

    static void due(String call, long got, long want) {
        checked++;
        if (got != want) {
            tellWrong(call, Long.toString(got), Long.toString(want));
        }
    }

    static void due(String call, String got, String want) {
        checked++;
        if (!got.equals(want)) {
            tellWrong(call, got, want);
        }
    }

    private static void tellWrong(String call, String got, String want) {
        wrong++;
        System.out.println(sentence + call + " answered " + got + ", due is " + want);
    }

    /** The exception must be of the very class: the machine's own are of classes below it. */
    static void throwsDue(Class<? extends RuntimeException> want, String call, Call made) {
        due(call, outcome(made), "throws." + want.getSimpleName());
    }

    /** As throwsDue; and the call must leave the object as it was. */
    static void refused(PlateArm x, Class<? extends RuntimeException> want, String call, Call made) {
        long before = x.digest();
        throwsDue(want, call, made);
        due("digest() after " + call, x.digest(), before);
    }

    static String outcome(Call made) {
        try {
            return Long.toString(made.answer());
        } catch (RuntimeException e) {
            return "throws." + e.getClass().getSimpleName();
        }
    }

    static void wholeDue(PlateArm x, String when, int... wants) {
        for (int what = 0; what < wants.length; what++) {
            due(when + ": whole(" + what + ")", x.whole(what), wants[what]);
        }
    }

    static void armDue(PlateArm x, String when, int... wants) {
        for (int what = 0; what < wants.length; what++) {
            due(when + ": arm(" + what + ")", x.arm(what), wants[what]);
        }
    }

    static void requestDue(PlateArm x, int request, int... wants) {
        for (int what = 0; what < wants.length; what++) {
            due("requestOf(" + request + ", " + what + ")", x.requestOf(request, what), wants[what]);
        }
    }

    static void loggedDue(PlateArm x, int back, int... wants) {
        for (int what = 0; what < wants.length; what++) {
            due("logged(" + back + ", " + what + ")", x.logged(back, what), wants[what]);
        }
    }

    /** Lets ticks pass until it is this tick. */
    static void passTo(PlateArm x, int tick) {
        int left = tick - x.whole(6);
        for (; left > 99; left -= 99) {
            x.pass(99);
        }
        if (left > 0) {
            x.pass(left);
        }
    }

    static void type(PlateArm x, String text) {
        for (int i = 0; i < text.length(); i++) {
            x.type(text.charAt(i));
        }
    }

    static void end(String test) {
        System.out.println(test + ": " + checked + " answers, " + wrong + " wrong");
        if (wrong != 0) {
            System.exit(1);
        }
    }
}
