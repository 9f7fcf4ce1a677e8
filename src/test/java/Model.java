import java.util.ArrayList;
import java.util.List;
import java.util.regex.Matcher;
import java.util.regex.Pattern;

/** The document told a second time, by other means than the program's: it answers in words. */
final class Model {
    private static final String NUMBER = " +[0-9]{1,4}";
    private static final Pattern WHOLE_TEXT = Pattern.compile("(?: *(?:plate" + NUMBER + NUMBER
            + "|read" + NUMBER + NUMBER + NUMBER + "|cancel" + NUMBER + "|set" + NUMBER + NUMBER
            + "|ticks" + NUMBER + ") *;)* *");

    private static final class Request {
        final int number;
        final int track;
        final int sector;
        final int deadline;
        final int told;

        Request(int number, int track, int sector, int deadline, int told) {
            this.number = number;
            this.track = track;
            this.sector = sector;
            this.deadline = deadline;
            this.told = told;
        }
    }

    private static final class Refusal extends RuntimeException {
        private static final long serialVersionUID = 1L;

        Refusal(String name) {
            super(name);
        }
    }

    private static final class World {
        int tracks = 12;
        int sectors = 6;
        int[] settings = {0, 3, 30, 0};
        int tick = 0;
        int track = 0;
        int moves = 0;
        int sweep = 1;
        int heat = 0;
        boolean rests = false;
        int late = 0;
        int givenUp = 0;
        int steps = 0;
        int starts = 0;
        int brakings = 0;
        int rested = 0;
        int hottest = 0;
        int told = 0;
        List<Request> requests = new ArrayList<>();
        // All readings there were: number, track, sector, tick, late.
        List<int[]> readings = new ArrayList<>();

        World copy() {
            World w = new World();
            w.tracks = tracks;
            w.sectors = sectors;
            w.settings = settings.clone();
            w.tick = tick;
            w.track = track;
            w.moves = moves;
            w.sweep = sweep;
            w.heat = heat;
            w.rests = rests;
            w.late = late;
            w.givenUp = givenUp;
            w.steps = steps;
            w.starts = starts;
            w.brakings = brakings;
            w.rested = rested;
            w.hottest = hottest;
            w.told = told;
            w.requests = new ArrayList<>(requests);
            w.readings = new ArrayList<>(readings);
            return w;
        }

        Request sought(int number) {
            for (Request r : requests) {
                if (r.number == number) {
                    return r;
                }
            }
            return null;
        }

        boolean wasRead(int number) {
            for (int[] row : readings) {
                if (row[0] == number) {
                    return true;
                }
            }
            return false;
        }

        Request chosen(int way, int sweeping) {
            Request best = null;
            for (Request r : requests) {
                if (way == 1 && (r.track - track) * sweeping < 0) {
                    continue;
                }
                if (best == null || sooner(r, best, way)) {
                    best = r;
                }
            }
            return best;
        }

        boolean sooner(Request a, Request b, int way) {
            if (way == 0) {
                return a.number < b.number;
            }
            if (way == 3) {
                return a.deadline < b.deadline || a.deadline == b.deadline && a.number < b.number;
            }
            int da = Math.abs(a.track - track);
            int db = Math.abs(b.track - track);
            return da < db || da == db && a.number < b.number;
        }

        Request wouldChoose(int way) {
            Request r = chosen(way, sweep);
            return r == null ? chosen(way, -sweep) : r;
        }

        void tick() {
            boolean restedThen = rests;
            boolean stillThen = moves == 0;
            Request target = null;
            if (!requests.isEmpty()) {
                target = chosen(settings[0], sweep);
                if (target == null) {
                    sweep = -sweep;
                    target = chosen(settings[0], sweep);
                }
            }
            if (stillThen) {
                if (target != null && target.track != track && !rests) {
                    moves = Integer.signum(target.track - track);
                    track += moves;
                    heat += 2;
                    starts++;
                    steps++;
                }
            } else if (target != null && Integer.signum(target.track - track) == moves) {
                track += moves;
                heat += 1;
                steps++;
            } else {
                moves = 0;
                heat += settings[1];
                brakings++;
            }
            List<Request> left = new ArrayList<>();
            for (Request r : requests) {
                if (stillThen && moves == 0 && r.track == track && r.sector == tick % sectors) {
                    int isLate = tick > r.deadline ? 1 : 0;
                    readings.add(new int[] {r.number, r.track, r.sector, tick, isLate});
                    late += isLate;
                } else if (settings[3] != 0 && r.deadline + settings[3] < tick) {
                    givenUp++;
                } else {
                    left.add(r);
                }
            }
            requests = left;
            heat = Math.max(0, heat - 1);
            rests = heat >= settings[2] || rests && heat > settings[2] / 2;
            rested += restedThen ? 1 : 0;
            hottest = Math.max(hottest, heat);
            tick++;
        }

        int finish() {
            int n = 0;
            for (; !requests.isEmpty() && n < 500; n++) {
                tick();
            }
            return n;
        }
    }

    private World world = new World();
    private final List<World> stack = new ArrayList<>();
    private String text = "";

    String answer(String name, int[] a) {
        try {
            return Long.toString(call(name, a));
        } catch (Refusal e) {
            return "throws." + e.getMessage();
        }
    }

    private static void refuse(boolean yes, String name) {
        if (yes) {
            throw new Refusal(name + "Exception");
        }
    }

    private long call(String name, int[] a) {
        switch (name) {
            case "plate": case "request": case "cancel": case "set": case "pass": case "finish":
                World before = world.copy();
                int answer = act(name, a);
                push(before);
                return answer;
            case "requestOf": return requestOf(a[0], a[1]);
            case "requestAt":
                refuse(a[0] < 0, "IllegalArgument");
                return a[0] < world.requests.size() ? world.requests.get(a[0]).number : -1;
            case "logged": return logged(a[0], a[1]);
            case "arm": return arm(a[0]);
            case "whole": return whole(a[0]);
            case "target":
                refuse(a[0] < 0 || a[0] > 3, "IllegalArgument");
                Request r = world.wouldChoose(a[0]);
                return r == null ? -1 : r.number;
            case "readIn": return readIn(a[0]);
            case "finishBy":
                refuse(a[0] < 0 || a[0] > 3 || a[1] < 0 || a[1] > 4, "IllegalArgument");
                return finishBy(a[0])[a[1]];
            case "bestWay": return bestWay();
            case "heatIn": return heatIn(a[0]);
            case "widest": return widest();
            case "reason": return reason(a[0]);
            case "type": return type(a[0]);
            case "clearCommands":
                int length = text.length();
                text = "";
                return length;
            case "runCommands": return runCommands();
            case "undo":
                refuse(stack.isEmpty(), "IllegalState");
                world = stack.remove(stack.size() - 1);
                return stack.size();
            case "digest": return digest();
            default: throw new AssertionError(name);
        }
    }

    private void push(World before) {
        stack.add(before);
        if (stack.size() > 4) {
            stack.remove(0);
        }
    }

    private int act(String name, int[] a) {
        World w = world;
        switch (name) {
            case "plate":
                refuse(a[0] < 4 || a[0] > 24 || a[1] < 3 || a[1] > 12, "IllegalArgument");
                world = new World();
                world.tracks = a[0];
                world.sectors = a[1];
                world.settings = w.settings.clone();
                return w.requests.size();
            case "request":
                refuse(a[0] < 0 || a[0] >= w.tracks || a[1] < 0 || a[1] >= w.sectors
                        || a[2] < 0 || a[2] > 9999, "IllegalArgument");
                refuse(w.requests.size() == 12, "IllegalState");
                w.requests.add(new Request(w.told, a[0], a[1], a[2], w.tick));
                return w.told++;
            case "cancel":
                Request r = w.sought(a[0]);
                refuse(r == null, "IndexOutOfBounds");
                w.requests.remove(r);
                return w.tick - r.told;
            case "set": return set(a[0], a[1]);
            case "pass":
                refuse(a[0] < 1 || a[0] > 99, "IllegalArgument");
                refuse(w.tick + a[0] > 9999, "IllegalState");
                int had = w.readings.size();
                for (int i = 0; i < a[0]; i++) {
                    w.tick();
                }
                return w.readings.size() - had;
            default:
                refuse(w.tick + w.copy().finish() > 9999, "IllegalState");
                return w.finish();
        }
    }

    private int set(int what, int value) {
        boolean fits;
        switch (what) {
            case 0: fits = value >= 0 && value <= 3; break;
            case 1: fits = value >= 0 && value <= 20; break;
            case 2: fits = value >= 5 && value <= 200; break;
            case 3: fits = value >= 0 && value <= 100; break;
            default: fits = false;
        }
        refuse(!fits, "IllegalArgument");
        int old = world.settings[what];
        world.settings[what] = value;
        return old;
    }

    private int requestOf(int number, int what) {
        Request r = world.sought(number);
        refuse(r == null, "IndexOutOfBounds");
        refuse(what < 0 || what > 5, "IllegalArgument");
        int[] values = {r.track, r.sector, r.deadline, r.told, Math.abs(r.track - world.track),
            world.tick > r.deadline ? 1 : 0};
        return values[what];
    }

    private int logged(int back, int what) {
        refuse(back < 0 || what < 0 || what > 4, "IllegalArgument");
        int kept = Math.min(10, world.readings.size());
        return back >= kept ? -1 : world.readings.get(world.readings.size() - 1 - back)[what];
    }

    private int arm(int what) {
        refuse(what < 0 || what > 5, "IllegalArgument");
        int[] values = {world.track, world.moves == 0 ? 0 : world.moves > 0 ? 1 : 2, world.heat,
            world.rests ? 1 : 0, world.sweep > 0 ? 1 : 2, world.tick % world.sectors};
        return values[what];
    }

    private int whole(int what) {
        refuse(what < 0 || what > 17, "IllegalArgument");
        World w = world;
        int[] values = {w.tracks, w.sectors, w.settings[0], w.settings[1], w.settings[2], w.settings[3],
            w.tick, w.requests.size(), w.told, w.readings.size(), w.late, w.givenUp, w.steps, w.starts,
            w.brakings, w.rested, w.hottest, text.length()};
        return values[what];
    }

    private int readIn(int number) {
        refuse(world.sought(number) == null, "IndexOutOfBounds");
        World w = world.copy();
        for (int i = 0; i < 500; i++) {
            w.tick();
            if (w.wasRead(number)) {
                return w.tick - 1;
            }
        }
        return -1;
    }

    private int[] finishBy(int way) {
        World w = world.copy();
        w.settings[0] = way;
        int ticks = w.finish();
        return new int[] {ticks, w.readings.size() - world.readings.size(), w.late - world.late,
            w.steps - world.steps, w.heat, w.givenUp - world.givenUp};
    }

    private int bestWay() {
        int best = 0;
        long least = Long.MAX_VALUE;
        for (int way = 0; way < 4; way++) {
            int[] f = finishBy(way);
            long cost = (f[2] + f[5]) * 1000L + f[0];
            if (cost < least) {
                least = cost;
                best = way;
            }
        }
        return best;
    }

    private int heatIn(int ticks) {
        refuse(ticks < 0 || ticks > 99, "IllegalArgument");
        World w = world.copy();
        for (int i = 0; i < ticks; i++) {
            w.tick();
        }
        return w.heat;
    }

    private int widest() {
        int widest = 0;
        for (Request a : world.requests) {
            for (Request b : world.requests) {
                widest = Math.max(widest, a.track - b.track);
            }
        }
        return widest;
    }

    private int reason(int number) {
        Request r = world.sought(number);
        refuse(r == null, "IndexOutOfBounds");
        World w = world.copy();
        w.tick();
        if (world.moves != 0) {
            return 1;
        }
        if (world.track != r.track) {
            return 2;
        }
        if (w.track != world.track) {
            return 3;
        }
        return w.wasRead(number) ? 0 : 4;
    }

    private int type(int value) {
        refuse(value < 0 || value > 127, "IllegalArgument");
        refuse(text.length() >= 150, "IllegalState");
        text += (char) value;
        return text.length();
    }

    /** -1 if there is none. */
    static int faultOf(String text) {
        if (WHOLE_TEXT.matcher(text).matches()) {
            return -1;
        }
        int stands = 0;
        while (stands < text.length() && canGoOn(text.substring(0, stands + 1))) {
            stands++;
        }
        int start = stands;
        while (start > 0 && isLetter(text, start - 1)) {
            start--;
        }
        int end = stands;
        while (isLetter(text, end)) {
            end++;
        }
        String front = text.substring(0, start).replaceAll(" +$", "");
        boolean isWord = end > start && (front.isEmpty() || front.endsWith(";"));
        boolean known = text.substring(start, end).matches("plate|read|cancel|set|ticks");
        return isWord && !known ? start : stands;
    }

    private static boolean isLetter(String text, int at) {
        return at < text.length() && text.charAt(at) >= 'a' && text.charAt(at) <= 'z';
    }

    private static boolean canGoOn(String front) {
        Matcher m = WHOLE_TEXT.matcher(front);
        return m.matches() || m.hitEnd();
    }

    private int runCommands() {
        int fault = faultOf(text);
        if (fault >= 0) {
            return -10 - fault;
        }
        push(world.copy());
        int done = 0;
        for (String command : text.split(";")) {
            if (command.trim().isEmpty()) {
                continue;
            }
            String[] parts = command.trim().split(" +");
            int[] a = new int[parts.length - 1];
            for (int i = 0; i < a.length; i++) {
                a[i] = Integer.parseInt(parts[i + 1]);
            }
            String name = parts[0].equals("read") ? "request" : parts[0].equals("ticks") ? "pass" : parts[0];
            try {
                act(name, a);
            } catch (Refusal e) {
                return done;
            }
            done++;
        }
        return done;
    }

    private long digest() {
        List<Integer> values = new ArrayList<>();
        values.add(stack.size());
        for (int what = 0; what < 18; what++) {
            values.add(whole(what));
        }
        for (int what = 0; what < 6; what++) {
            values.add(arm(what));
        }
        for (Request r : world.requests) {
            values.add(r.number);
            for (int what = 0; what < 6; what++) {
                values.add(requestOf(r.number, what));
            }
        }
        for (int back = 0; logged(back, 0) >= 0; back++) {
            for (int what = 0; what < 5; what++) {
                values.add(logged(back, what));
            }
        }
        for (int way = 0; way < 4; way++) {
            int[] forecast = finishBy(way);
            values.add((int) call("target", new int[] {way}));
            values.add(forecast[0]);
            values.add(forecast[1]);
            values.add(forecast[2]);
        }
        values.add(bestWay());
        values.add(heatIn(10));
        values.add(widest());
        long h = 43906;
        for (int v : values) {
            h = 31 * h + v;
        }
        return h;
    }
}
