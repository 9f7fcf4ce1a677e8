import java.io.IOException;
import java.nio.file.Files;
import java.nio.file.Path;
import java.util.ArrayList;
import java.util.List;
import java.util.regex.Matcher;
import java.util.regex.Pattern;

/** The calls that README.md shows, in its order, each with the answer that it tells. */
final class ReadmeTest {
    private static final Pattern SHOWN = Pattern.compile("([xy]\\..*;) +// (-?[0-9]+): .*");

    private final List<String> calls = new ArrayList<>();
    private final List<String> answers = new ArrayList<>();
    private int next = 0;

    public static void main(String[] args) throws IOException {
        ReadmeTest test = new ReadmeTest();
        for (String line : Files.readAllLines(Path.of("README.md"))) {
            test.take(line);
        }
        test.calls();
        test.commands();
        Due.due("calls shown", test.calls.size(), test.next);
        Due.end("ReadmeTest");
    }

    private void take(String line) {
        Matcher m = SHOWN.matcher(line);
        if (m.matches()) {
            calls.add(m.group(1));
            answers.add(m.group(2));
        }
    }

    private void shown(String call, long answer) {
        Due.due("call " + next + " in README.md", next < calls.size() ? calls.get(next) : "none", call);
        Due.due(call, Long.toString(answer), next < answers.size() ? answers.get(next) : "none");
        next++;
    }

    private void calls() {
        PlateArm x = new PlateArm();
        shown("x.request(5, 2, 40);", x.request(5, 2, 40));
        shown("x.request(0, 3, 9);", x.request(0, 3, 9));
        shown("x.set(0, 1);", x.set(0, 1));
        shown("x.reason(1);", x.reason(1));
        shown("x.pass(4);", x.pass(4));
        shown("x.logged(0, 3);", x.logged(0, 3));
        shown("x.readIn(0);", x.readIn(0));
        shown("x.finish();", x.finish());
        shown("x.logged(0, 4);", x.logged(0, 4));
        shown("x.undo();", x.undo());
        shown("x.whole(7);", x.whole(7));
    }

    private void commands() {
        PlateArm y = new PlateArm();
        Due.type(y, "read 5 2 40; set 3 7; ticks 9;");
        shown("y.runCommands();", y.runCommands());
        shown("y.whole(9);", y.whole(9));
        shown("y.undo();", y.undo());
        shown("y.whole(17);", y.whole(17));
        shown("y.type('!');", y.type('!'));
        shown("y.runCommands();", y.runCommands());
    }
}
