import java.util.ArrayList;
import java.util.List;

/** Long runs of mixed calls: the program and the model must answer alike, exceptions too. */
final class ModelTest {
    private static final int RUNS = 1500;
    /** The document promises nothing behind them. */
    private static final int CALLS = 512;
    private static final int CALLS_OF_A_TEXT = 153;
    private static final String[] NAMES = {"plate", "request", "cancel", "set", "pass", "finish",
        "requestOf", "requestAt", "logged", "arm", "whole", "target", "readIn", "finishBy", "bestWay",
        "heatIn", "widest", "reason", "type", "clearCommands", "runCommands", "undo", "digest"};
    private static final int[] WEIGHTS = {1, 30, 3, 6, 14, 2, 8, 3, 6, 6, 10, 6, 6, 6, 3, 4, 2, 8, 0, 1, 1,
        5, 6};
    private static final int[] ODD = {-1, Integer.MIN_VALUE, Integer.MAX_VALUE, 100000, -2};

    private long seed;

    private ModelTest(long seed) {
        this.seed = seed;
    }

    public static void main(String[] args) {
        for (int run = 1; run <= RUNS; run++) {
            new ModelTest(run * 7919L).run(run);
        }
        faults();
        Due.end("ModelTest");
    }

    private int next(int bound) {
        seed = seed * 6364136223846793005L + 1442695040888963407L;
        return (int) ((seed >>> 33) % bound);
    }

    private void run(int run) {
        PlateArm x = new PlateArm();
        Model model = new Model();
        List<String> calls = new ArrayList<>();
        if (run % 7 == 0) {
            goFar(x, model, calls, run);
        }
        int tracks = 4 + next(run % 2 == 0 ? 21 : 5);
        int sectors = 3 + next(10);
        both(x, model, calls, run, "plate", tracks, sectors);
        if (run % 7 == 0) {
            goFar(x, model, calls, run);
        }
        while (calls.size() < CALLS) {
            if (next(40) == 0 && calls.size() + CALLS_OF_A_TEXT <= CALLS) {
                typeText(x, model, calls, run);
            } else {
                String name = pick();
                both(x, model, calls, run, name, arguments(name, model));
            }
        }
    }

    /** Near to the last tick. */
    private void goFar(PlateArm x, Model model, List<String> calls, int run) {
        for (int i = 0; i < 100; i++) {
            both(x, model, calls, run, "pass", 99);
        }
        both(x, model, calls, run, "pass", 1 + next(98));
    }

    private String pick() {
        int sum = 0;
        for (int w : WEIGHTS) {
            sum += w;
        }
        int at = next(sum);
        for (int i = 0; i < NAMES.length; i++) {
            at -= WEIGHTS[i];
            if (at < 0) {
                return NAMES[i];
            }
        }
        throw new AssertionError();
    }

    private static int value(Model model, int what) {
        return Integer.parseInt(model.answer("whole", new int[] {what}));
    }

    private int[] arguments(String name, Model model) {
        int[] a = usual(name, model);
        if (a.length > 0 && next(25) == 0) {
            a[next(a.length)] = ODD[next(ODD.length)];
        }
        return a;
    }

    private int[] usual(String name, Model model) {
        int told = value(model, 8) + 1;
        switch (name) {
            case "plate": return new int[] {3 + next(23), 2 + next(12)};
            case "request": return new int[] {next(value(model, 0) + (next(9) == 0 ? 1 : 0)),
                next(next(3) == 0 ? 1 : value(model, 1)), deadline(model)};
            case "cancel": case "readIn": case "reason": return new int[] {someRequest(model, told)};
            case "set": return setting();
            case "pass": return new int[] {next(8) == 0 ? next(101) : 1 + next(4)};
            case "requestOf": return new int[] {someRequest(model, told), next(7)};
            case "requestAt": return new int[] {next(13)};
            case "logged": return new int[] {next(12), next(6)};
            case "arm": return new int[] {next(7)};
            case "whole": return new int[] {next(19)};
            case "target": return new int[] {next(5)};
            case "finishBy": return new int[] {next(4), next(6)};
            case "heatIn": return new int[] {next(101)};
            default: return new int[0];
        }
    }

    private int someRequest(Model model, int told) {
        int at = Integer.parseInt(model.answer("requestAt", new int[] {next(6)}));
        return at >= 0 && next(5) != 0 ? at : next(told);
    }

    private int deadline(Model model) {
        int d = value(model, 6) + next(60) - 10;
        return next(30) == 0 ? 9998 + next(3) : Math.max(0, d);
    }

    private int[] setting() {
        int what = next(5);
        int[] least = {0, 0, 5, 0, 0};
        int[] most = {3, 20, next(2) == 0 ? 20 : 200, next(2) == 0 ? 0 : next(2) == 0 ? 10 : 100, 3};
        int value = least[what] - 1 + next(most[what] - least[what] + 3);
        return new int[] {what, next(4) == 0 ? value : Math.min(most[what], Math.max(least[what], value))};
    }

    private void typeText(PlateArm x, Model model, List<String> calls, int run) {
        both(x, model, calls, run, "clearCommands");
        String text = text(model, 1 + next(5));
        for (int i = 0; i < text.length() && i < 150; i++) {
            both(x, model, calls, run, "type", text.charAt(i));
        }
        both(x, model, calls, run, "runCommands");
        both(x, model, calls, run, "digest");
    }

    private String text(Model model, int commands) {
        StringBuilder b = new StringBuilder();
        for (int i = 0; i < commands; i++) {
            b.append(command(model));
        }
        if (next(4) == 0 && b.length() > 0) {
            String odd = " ;09azAZ{/:`\u0000\u007f,-x";
            int at = next(b.length());
            switch (next(3)) {
                case 0: b.setCharAt(at, odd.charAt(next(odd.length()))); break;
                case 1: b.deleteCharAt(at); break;
                default: b.insert(at, odd.charAt(next(odd.length())));
            }
        }
        return b.toString();
    }

    private String command(Model model) {
        String[] words = {"plate", "read", "cancel", "set", "ticks"};
        String[] names = {"plate", "request", "cancel", "set", "pass"};
        int which = next(8) == 0 ? 0 : 1 + next(4);
        StringBuilder b = new StringBuilder(spaces(0)).append(words[which]);
        for (int v : usual(names[which], model)) {
            String digits = Integer.toString(Math.max(0, v));
            b.append(spaces(1)).append(next(6) == 0 && digits.length() < 4 ? "0" : "").append(digits);
        }
        return b.append(spaces(0)).append(';').append(spaces(0)).toString();
    }

    private String spaces(int least) {
        return " ".repeat(least + (next(8) == 0 ? next(3) : 0));
    }

    private static void both(PlateArm x, Model model, List<String> calls, int run, String name, int... a) {
        StringBuilder told = new StringBuilder(name).append('(');
        for (int i = 0; i < a.length; i++) {
            told.append(i == 0 ? "" : ", ").append(a[i]);
        }
        calls.add(told.append(')').toString());
        String want = model.answer(name, a);
        String got = Due.outcome(() -> call(x, name, a));
        Due.due("run " + run + ", call " + calls.size() + ", " + told, got, want);
        if (!got.equals(want)) {
            System.out.println("  after " + calls);
            Due.end("ModelTest");
        }
    }

    private static long call(PlateArm x, String name, int[] a) {
        switch (name) {
            case "plate": return x.plate(a[0], a[1]);
            case "request": return x.request(a[0], a[1], a[2]);
            case "cancel": return x.cancel(a[0]);
            case "set": return x.set(a[0], a[1]);
            case "pass": return x.pass(a[0]);
            case "finish": return x.finish();
            case "requestOf": return x.requestOf(a[0], a[1]);
            case "requestAt": return x.requestAt(a[0]);
            case "logged": return x.logged(a[0], a[1]);
            case "arm": return x.arm(a[0]);
            case "whole": return x.whole(a[0]);
            case "target": return x.target(a[0]);
            case "readIn": return x.readIn(a[0]);
            case "finishBy": return x.finishBy(a[0], a[1]);
            case "bestWay": return x.bestWay();
            case "heatIn": return x.heatIn(a[0]);
            case "widest": return x.widest();
            case "reason": return x.reason(a[0]);
            case "type": return x.type(a[0]);
            case "clearCommands": return x.clearCommands();
            case "runCommands": return x.runCommands();
            case "undo": return x.undo();
            case "digest": return x.digest();
            default: throw new AssertionError(name);
        }
    }

    /** Texts alone, many of them faulty in one or two places; the commands are none that throw. */
    private static void faults() {
        ModelTest t = new ModelTest(41);
        Model model = new Model();
        for (int i = 0; i < 40000; i++) {
            String text = t.text(model, 1 + t.next(3));
            if (t.next(3) == 0) {
                text = text.substring(0, t.next(text.length() + 1));
            }
            text = text.substring(0, Math.min(150, text.length()));
            PlateArm x = new PlateArm();
            Due.type(x, text);
            int fault = Model.faultOf(text);
            int got = x.runCommands();
            Due.due("fault of '" + text + "'", got < 0 ? -10 - got : -1, fault);
        }
    }
}
