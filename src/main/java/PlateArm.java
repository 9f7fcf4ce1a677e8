/** A spinning plate whose arm steps from track to track and reads the sectors that are asked for. */
public final class PlateArm {
    /** Returned where there is no such value. */
    public static final int NONE = -1;

    private static final int LAST_TICK = 9999;
    private static final int LAST_DEADLINE = 9999;
    private static final int LONGEST_PASS = 99;
    private static final int LONGEST_FINISH = 500;
    private static final int WAYS = 4;
    private static final int KEPT_STATES = 4;

    private static final int WAY = 0;
    private static final int BRAKE = 1;
    private static final int LIMIT = 2;
    private static final int PATIENCE = 3;
    private static final int SETTINGS = 4;
    private static final int[] LOWEST_SETTING = {0, 0, 5, 0};
    private static final int[] HIGHEST_SETTING = {3, 20, 200, 100};

    private static final int REQUEST_VALUES = 6;
    private static final int LOG_VALUES = 5;
    private static final int ARM_VALUES = 6;
    private static final int WHOLE_VALUES = 18;

    private static final int TICKS_TAKEN = 0;
    private static final int READ_IN_THEM = 1;
    private static final int LATE_IN_THEM = 2;
    private static final int STEPS_IN_THEM = 3;
    private static final int HEAT_BEHIND = 4;
    private static final int FORECAST_VALUES = 5;
    private static final int MISSED = 5;

    private final State state = new State();
    // What-if questions are played here, so that none of them makes a new object.
    private final State trial = new State();
    private final State[] saved = new State[KEPT_STATES];
    private int savedCount;
    private final int[][] forecasts = new int[WAYS][FORECAST_VALUES + 1];
    private final CommandText text = new CommandText();
    private final CommandScan scan = new CommandScan();

    public PlateArm() {
        for (int i = 0; i < KEPT_STATES; i++) {
            saved[i] = new State();
        }
    }

    // ---- plate and requests

    public int plate(int tracks, int sectors) throws IllegalArgumentException {
        if (!plateFits(tracks, sectors)) {
            throw new IllegalArgumentException();
        }
        save();
        int gone = state.requests.count;
        state.putIn(tracks, sectors);
        return gone;
    }

    public int request(int track, int sector, int deadline)
            throws IllegalArgumentException, IllegalStateException {
        if (!requestFits(track, sector, deadline)) {
            throw new IllegalArgumentException();
        }
        if (state.requests.isFull()) {
            throw new IllegalStateException();
        }
        save();
        return state.requests.add(track, sector, deadline, state.tick);
    }

    public int cancel(int request) throws IndexOutOfBoundsException {
        int index = state.requests.indexOf(request);
        if (index == NONE) {
            throw new IndexOutOfBoundsException();
        }
        save();
        int age = state.tick - state.requests.toldIn[index];
        state.requests.removeAt(index);
        return age;
    }

    public int set(int what, int value) throws IllegalArgumentException {
        if (!settingFits(what, value)) {
            throw new IllegalArgumentException();
        }
        save();
        int previous = state.settings[what];
        state.settings[what] = value;
        return previous;
    }

    public int pass(int ticks) throws IllegalArgumentException, IllegalStateException {
        if (!ticksFit(ticks)) {
            throw new IllegalArgumentException();
        }
        if (!timeIsLeft(ticks)) {
            throw new IllegalStateException();
        }
        save();
        int before = state.log.written;
        state.passTicks(ticks);
        return state.log.written - before;
    }

    public int finish() throws IllegalStateException {
        trial.copyFrom(state);
        int ticks = trial.passUntilEmpty();
        if (!timeIsLeft(ticks)) {
            throw new IllegalStateException();
        }
        save();
        state.copyFrom(trial);
        return ticks;
    }

    // ---- values

    public int requestOf(int request, int what)
            throws IndexOutOfBoundsException, IllegalArgumentException {
        int index = state.requests.indexOf(request);
        if (index == NONE) {
            throw new IndexOutOfBoundsException();
        }
        if (what < 0 || what >= REQUEST_VALUES) {
            throw new IllegalArgumentException();
        }
        return requestValue(index, what);
    }

    public int requestAt(int place) throws IllegalArgumentException {
        if (place < 0) {
            throw new IllegalArgumentException();
        }
        return place < state.requests.count ? state.requests.numbers[place] : NONE;
    }

    public int logged(int back, int what) throws IllegalArgumentException {
        if (back < 0 || what < 0 || what >= LOG_VALUES) {
            throw new IllegalArgumentException();
        }
        return back < state.log.kept() ? state.log.valueOf(back, what) : NONE;
    }

    public int arm(int what) throws IllegalArgumentException {
        switch (what) {
            case 0: return state.arm.track;
            case 1: return state.arm.direction;
            case 2: return state.arm.heat;
            case 3: return state.arm.rests ? 1 : 0;
            case 4: return state.arm.sweep;
            case 5: return state.sectorUnderArm();
            default: throw new IllegalArgumentException();
        }
    }

    public int whole(int what) throws IllegalArgumentException {
        switch (what) {
            case 0: return state.tracks;
            case 1: return state.sectors;
            case 2: return state.settings[WAY];
            case 3: return state.settings[BRAKE];
            case 4: return state.settings[LIMIT];
            case 5: return state.settings[PATIENCE];
            case 6: return state.tick;
            case 7: return state.requests.count;
            case 8: return state.requests.told;
            case 9: return state.log.written;
            case 10: return state.tally.late;
            case 11: return state.tally.givenUp;
            case 12: return state.tally.steps;
            case 13: return state.tally.starts;
            case 14: return state.tally.brakings;
            case 15: return state.tally.restedTicks;
            case 16: return state.tally.greatestHeat;
            case 17: return text.length;
            default: throw new IllegalArgumentException();
        }
    }

    // ---- what if, which changes nothing

    public int target(int way) throws IllegalArgumentException {
        if (!isWay(way)) {
            throw new IllegalArgumentException();
        }
        int index = state.targetBy(way);
        return index == NONE ? NONE : state.requests.numbers[index];
    }

    public int readIn(int request) throws IndexOutOfBoundsException {
        if (state.requests.indexOf(request) == NONE) {
            throw new IndexOutOfBoundsException();
        }
        trial.copyFrom(state);
        return trial.tickOfReading(request);
    }

    public int finishBy(int way, int what) throws IllegalArgumentException {
        if (!isWay(way) || what < 0 || what >= FORECAST_VALUES) {
            throw new IllegalArgumentException();
        }
        forecast(way);
        return forecasts[way][what];
    }

    public int bestWay() {
        forecastAll();
        return bestForecast();
    }

    public int heatIn(int ticks) throws IllegalArgumentException {
        if (ticks != 0 && !ticksFit(ticks)) {
            throw new IllegalArgumentException();
        }
        trial.copyFrom(state);
        trial.passTicks(ticks);
        return trial.arm.heat;
    }

    public int widest() {
        return state.requests.spread();
    }

    public int reason(int request) throws IndexOutOfBoundsException {
        int index = state.requests.indexOf(request);
        if (index == NONE) {
            throw new IndexOutOfBoundsException();
        }
        return state.hindranceOf(index);
    }

    // ---- command text, undo and checksum

    public int type(int value) throws IllegalArgumentException, IllegalStateException {
        if (value < 0 || value > 127) {
            throw new IllegalArgumentException();
        }
        if (text.isFull()) {
            throw new IllegalStateException();
        }
        return text.append(value);
    }

    public int clearCommands() {
        int length = text.length;
        text.length = 0;
        return length;
    }

    public int runCommands() {
        int fault = scan.faultOf(text);
        if (fault != NONE) {
            return -10 - fault;
        }
        save();
        scan.begin();
        int done = 0;
        for (int at = 0; at < text.length; at++) {
            scan.take(text, at);
            // In a text without fault each semicolon ends one command.
            if (text.byteAt(at) == ';') {
                if (!carryOut(scan.word, scan.numbers)) {
                    return done;
                }
                done++;
            }
        }
        return done;
    }

    public int undo() throws IllegalStateException {
        if (savedCount <= 0) {
            throw new IllegalStateException();
        }
        savedCount--;
        state.copyFrom(saved[savedCount]);
        return savedCount;
    }

    public long digest() {
        long h = 31L * 43906L + savedCount;
        for (int what = 0; what < WHOLE_VALUES; what++) {
            h = 31L * h + whole(what);
        }
        for (int what = 0; what < ARM_VALUES; what++) {
            h = 31L * h + arm(what);
        }
        h = mixLog(mixRequests(h));
        forecastAll();
        h = mixForecasts(h);
        h = 31L * h + bestForecast();
        h = 31L * h + heatIn(10);
        return 31L * h + widest();
    }

    private long mixRequests(long start) {
        long h = start;
        for (int i = 0; i < state.requests.count; i++) {
            h = 31L * h + state.requests.numbers[i];
            for (int what = 0; what < REQUEST_VALUES; what++) {
                h = 31L * h + requestValue(i, what);
            }
        }
        return h;
    }

    private long mixLog(long start) {
        long h = start;
        for (int back = 0; back < state.log.kept(); back++) {
            for (int what = 0; what < LOG_VALUES; what++) {
                h = 31L * h + state.log.valueOf(back, what);
            }
        }
        return h;
    }

    private long mixForecasts(long start) {
        long h = start;
        for (int way = 0; way < WAYS; way++) {
            h = 31L * h + target(way);
            for (int what = TICKS_TAKEN; what <= LATE_IN_THEM; what++) {
                h = 31L * h + forecasts[way][what];
            }
        }
        return h;
    }

    private static boolean plateFits(int tracks, int sectors) {
        return tracks >= 4 && tracks <= 24 && sectors >= 3 && sectors <= 12;
    }

    private boolean requestFits(int track, int sector, int deadline) {
        return track >= 0 && track < state.tracks && sector >= 0 && sector < state.sectors
                && deadline >= 0 && deadline <= LAST_DEADLINE;
    }

    private static boolean settingFits(int what, int value) {
        return what >= 0 && what < SETTINGS
                && value >= LOWEST_SETTING[what] && value <= HIGHEST_SETTING[what];
    }

    private static boolean ticksFit(int ticks) {
        return ticks >= 1 && ticks <= LONGEST_PASS;
    }

    private boolean timeIsLeft(int ticks) {
        return state.tick + ticks <= LAST_TICK;
    }

    private static boolean isWay(int way) {
        return way >= 0 && way < WAYS;
    }

    private int requestValue(int index, int what) {
        Requests requests = state.requests;
        switch (what) {
            case 0: return requests.tracks[index];
            case 1: return requests.sectors[index];
            case 2: return requests.deadlines[index];
            case 3: return requests.toldIn[index];
            case 4: return Math.abs(requests.tracks[index] - state.arm.track);
            default: return state.tick > requests.deadlines[index] ? 1 : 0;
        }
    }

    private void forecastAll() {
        for (int way = 0; way < WAYS; way++) {
            forecast(way);
        }
    }

    private void forecast(int way) {
        trial.copyFrom(state);
        trial.settings[WAY] = way;
        int[] values = forecasts[way];
        values[TICKS_TAKEN] = trial.passUntilEmpty();
        values[READ_IN_THEM] = trial.log.written - state.log.written;
        values[LATE_IN_THEM] = trial.tally.late - state.tally.late;
        values[STEPS_IN_THEM] = trial.tally.steps - state.tally.steps;
        values[HEAT_BEHIND] = trial.arm.heat;
        values[MISSED] = values[LATE_IN_THEM] + trial.tally.givenUp - state.tally.givenUp;
    }

    private int bestForecast() {
        int best = 0;
        for (int way = 1; way < WAYS; way++) {
            int fewer = Integer.compare(forecasts[way][MISSED], forecasts[best][MISSED]);
            if (fewer == 0) {
                fewer = Integer.compare(forecasts[way][TICKS_TAKEN], forecasts[best][TICKS_TAKEN]);
            }
            if (fewer < 0) {
                best = way;
            }
        }
        return best;
    }

    private void save() {
        if (savedCount >= KEPT_STATES) {
            dropOldest();
        }
        saved[savedCount].copyFrom(state);
        savedCount++;
    }

    private void dropOldest() {
        State oldest = saved[0];
        for (int i = 1; i < KEPT_STATES; i++) {
            saved[i - 1] = saved[i];
        }
        // The dropped one's room serves for the state that is saved next.
        saved[KEPT_STATES - 1] = oldest;
        savedCount = KEPT_STATES - 1;
    }

    /** Returns whether the command was done; one that would throw changes nothing. */
    private boolean carryOut(Word word, int[] numbers) {
        switch (word) {
            case PLATE: return carryOutPlate(numbers[0], numbers[1]);
            case READ: return carryOutRead(numbers[0], numbers[1], numbers[2]);
            case CANCEL: return carryOutCancel(numbers[0]);
            case SET: return carryOutSet(numbers[0], numbers[1]);
            case TICKS: return carryOutTicks(numbers[0]);
            default: return false;
        }
    }

    private boolean carryOutPlate(int tracks, int sectors) {
        if (!plateFits(tracks, sectors)) {
            return false;
        }
        state.putIn(tracks, sectors);
        return true;
    }

    private boolean carryOutRead(int track, int sector, int deadline) {
        if (!requestFits(track, sector, deadline) || state.requests.isFull()) {
            return false;
        }
        state.requests.add(track, sector, deadline, state.tick);
        return true;
    }

    private boolean carryOutCancel(int request) {
        int index = state.requests.indexOf(request);
        if (index == NONE) {
            return false;
        }
        state.requests.removeAt(index);
        return true;
    }

    private boolean carryOutSet(int what, int value) {
        if (!settingFits(what, value)) {
            return false;
        }
        state.settings[what] = value;
        return true;
    }

    private boolean carryOutTicks(int ticks) {
        if (!ticksFit(ticks) || !timeIsLeft(ticks)) {
            return false;
        }
        state.passTicks(ticks);
        return true;
    }

    /** All that undo() brings back, and how a tick changes it. */
    private static final class State {
        private static final int SWEEPING = 1;
        private static final int NEAREST = 2;
        private static final int EARLIEST = 3;

        int tracks = 12;
        int sectors = 6;
        int tick;
        final int[] settings = {0, 3, 30, 0};
        final Arm arm = new Arm();
        final Requests requests = new Requests();
        final Log log = new Log();
        final Tally tally = new Tally();

        void putIn(int newTracks, int newSectors) {
            tracks = newTracks;
            sectors = newSectors;
            tick = 0;
            arm.reset();
            requests.reset();
            log.reset();
            tally.reset();
        }

        void copyFrom(State other) {
            tracks = other.tracks;
            sectors = other.sectors;
            tick = other.tick;
            System.arraycopy(other.settings, 0, settings, 0, SETTINGS);
            arm.copyFrom(other.arm);
            requests.copyFrom(other.requests);
            log.copyFrom(other.log);
            tally.copyFrom(other.tally);
        }

        int sectorUnderArm() {
            return sectors == 0 ? 0 : tick % sectors;
        }

        void passTicks(int ticks) {
            for (int i = 0; i < ticks; i++) {
                beginTick();
                endTick();
            }
        }

        int passUntilEmpty() {
            int ticks = 0;
            while (ticks < LONGEST_FINISH && requests.count > 0) {
                beginTick();
                endTick();
                ticks++;
            }
            return ticks;
        }

        int tickOfReading(int request) {
            for (int i = 0; i < LONGEST_FINISH; i++) {
                // Between the two halves of a tick, gone means read and not given up.
                // The log could not tell: of twelve read at once it keeps ten.
                beginTick();
                if (requests.indexOf(request) == NONE) {
                    return tick;
                }
                endTick();
                if (requests.indexOf(request) == NONE) {
                    return NONE;
                }
            }
            return NONE;
        }

        int targetBy(int way) {
            int index = lowest(way, arm.sweep);
            return index != NONE ? index : lowest(way, Arm.opposite(arm.sweep));
        }

        int hindranceOf(int index) {
            if (arm.direction != Arm.STILL) {
                return 1;
            }
            if (requests.tracks[index] != arm.track) {
                return 2;
            }
            int target = targetBy(settings[WAY]);
            if (target != NONE && requests.tracks[target] != arm.track && !arm.rests) {
                return 3;
            }
            return requests.sectors[index] != sectorUnderArm() ? 4 : 0;
        }

        /** A tick up to its readings. */
        private void beginTick() {
            if (arm.rests) {
                tally.restedTicks++;
            }
            int target = lowest(settings[WAY], arm.sweep);
            // Among requests only a sweep finds none: all of them are behind it.
            if (target == NONE && requests.count > 0) {
                arm.sweep = Arm.opposite(arm.sweep);
                target = lowest(settings[WAY], arm.sweep);
            }
            int goal = target == NONE ? arm.track : requests.tracks[target];
            if (arm.direction != Arm.STILL) {
                moveOn(goal);
                return;
            }
            if (goal != arm.track && !arm.rests) {
                start(goal);
                return;
            }
            readUnderArm();
        }

        /** A tick from its readings on. */
        private void endTick() {
            if (settings[PATIENCE] != 0) {
                giveUp();
            }
            arm.cool(settings[LIMIT]);
            tally.greatestHeat = Math.max(tally.greatestHeat, arm.heat);
            tick++;
        }

        private int lowest(int way, int sweep) {
            int best = NONE;
            int least = 0;
            for (int i = 0; i < requests.count; i++) {
                int rank = rankOf(i, way, sweep);
                if (rank >= 0 && (best == NONE || rank < least)) {
                    best = i;
                    least = rank;
                }
            }
            return best;
        }

        /** The lower the rank, the sooner the request is chosen; with a negative one it is not. */
        private int rankOf(int index, int way, int sweep) {
            int above = requests.tracks[index] - arm.track;
            switch (way) {
                case SWEEPING: return sweep == Arm.UP ? above : -above;
                case NEAREST: return Math.abs(above);
                case EARLIEST: return requests.deadlines[index];
                default: return requests.numbers[index];
            }
        }

        private void start(int goal) {
            arm.direction = goal > arm.track ? Arm.UP : Arm.DOWN;
            arm.step();
            arm.heat += 2;
            tally.starts++;
            tally.steps++;
        }

        private void moveOn(int goal) {
            if (arm.liesFarther(goal)) {
                arm.step();
                arm.heat++;
                tally.steps++;
            } else {
                arm.direction = Arm.STILL;
                arm.heat += settings[BRAKE];
                tally.brakings++;
            }
        }

        private void readUnderArm() {
            int sector = sectorUnderArm();
            int left = 0;
            for (int i = 0; i < requests.count; i++) {
                if (requests.tracks[i] == arm.track && requests.sectors[i] == sector) {
                    boolean late = tick > requests.deadlines[i];
                    log.write(requests.numbers[i], arm.track, sector, tick, late);
                    tally.late += late ? 1 : 0;
                } else {
                    requests.move(i, left);
                    left++;
                }
            }
            requests.count = left;
        }

        private void giveUp() {
            int left = 0;
            for (int i = 0; i < requests.count; i++) {
                if (requests.deadlines[i] + settings[PATIENCE] < tick) {
                    tally.givenUp++;
                } else {
                    requests.move(i, left);
                    left++;
                }
            }
            requests.count = left;
        }
    }

    private static final class Arm {
        static final int STILL = 0;
        static final int UP = 1;
        static final int DOWN = 2;

        int track;
        int direction = STILL;
        int heat;
        boolean rests;
        int sweep = UP;

        static int opposite(int direction) {
            return direction == UP ? DOWN : UP;
        }

        void reset() {
            track = 0;
            direction = STILL;
            heat = 0;
            rests = false;
            sweep = UP;
        }

        void copyFrom(Arm other) {
            track = other.track;
            direction = other.direction;
            heat = other.heat;
            rests = other.rests;
            sweep = other.sweep;
        }

        boolean liesFarther(int goal) {
            return direction == UP ? goal > track : goal < track;
        }

        void step() {
            track += direction == UP ? 1 : -1;
        }

        void cool(int limit) {
            if (heat > 0) {
                heat--;
            }
            if (heat >= limit) {
                rests = true;
            } else if (heat <= limit / 2) {
                rests = false;
            }
        }
    }

    /** The requests that are not gone, by their numbers. */
    private static final class Requests {
        private static final int MOST = 12;

        int count;
        int told;
        final int[] numbers = new int[MOST];
        final int[] tracks = new int[MOST];
        final int[] sectors = new int[MOST];
        final int[] deadlines = new int[MOST];
        final int[] toldIn = new int[MOST];

        void reset() {
            count = 0;
            told = 0;
        }

        void copyFrom(Requests other) {
            count = other.count;
            told = other.told;
            System.arraycopy(other.numbers, 0, numbers, 0, MOST);
            System.arraycopy(other.tracks, 0, tracks, 0, MOST);
            System.arraycopy(other.sectors, 0, sectors, 0, MOST);
            System.arraycopy(other.deadlines, 0, deadlines, 0, MOST);
            System.arraycopy(other.toldIn, 0, toldIn, 0, MOST);
        }

        boolean isFull() {
            return count >= MOST;
        }

        int add(int track, int sector, int deadline, int tick) {
            if (isFull()) {
                return NONE;
            }
            numbers[count] = told;
            tracks[count] = track;
            sectors[count] = sector;
            deadlines[count] = deadline;
            toldIn[count] = tick;
            count++;
            told++;
            return numbers[count - 1];
        }

        int indexOf(int number) {
            for (int i = 0; i < count; i++) {
                if (numbers[i] == number) {
                    return i;
                }
            }
            return NONE;
        }

        void move(int from, int to) {
            numbers[to] = numbers[from];
            tracks[to] = tracks[from];
            sectors[to] = sectors[from];
            deadlines[to] = deadlines[from];
            toldIn[to] = toldIn[from];
        }

        void removeAt(int index) {
            for (int i = index + 1; i < count; i++) {
                move(i, i - 1);
            }
            count--;
        }

        int spread() {
            if (count == 0) {
                return 0;
            }
            int low = tracks[0];
            int high = tracks[0];
            for (int i = 1; i < count; i++) {
                low = Math.min(low, tracks[i]);
                high = Math.max(high, tracks[i]);
            }
            return high - low;
        }
    }

    /** The latest readings; each new one takes the place of the oldest. */
    private static final class Log {
        private static final int ROWS = 10;

        int written;
        final int[] cells = new int[ROWS * LOG_VALUES];

        void reset() {
            written = 0;
        }

        void copyFrom(Log other) {
            written = other.written;
            System.arraycopy(other.cells, 0, cells, 0, ROWS * LOG_VALUES);
        }

        int kept() {
            return Math.min(written, ROWS);
        }

        void write(int request, int track, int sector, int tick, boolean late) {
            int row = written % ROWS * LOG_VALUES;
            cells[row] = request;
            cells[row + 1] = track;
            cells[row + 2] = sector;
            cells[row + 3] = tick;
            cells[row + 4] = late ? 1 : 0;
            written++;
        }

        int valueOf(int back, int what) {
            return cells[(written - 1 - back) % ROWS * LOG_VALUES + what];
        }
    }

    /** What is counted since the plate was put in. */
    private static final class Tally {
        int late;
        int givenUp;
        int steps;
        int starts;
        int brakings;
        int restedTicks;
        int greatestHeat;

        void reset() {
            late = 0;
            givenUp = 0;
            steps = 0;
            starts = 0;
            brakings = 0;
            restedTicks = 0;
            greatestHeat = 0;
        }

        void copyFrom(Tally other) {
            late = other.late;
            givenUp = other.givenUp;
            steps = other.steps;
            starts = other.starts;
            brakings = other.brakings;
            restedTicks = other.restedTicks;
            greatestHeat = other.greatestHeat;
        }
    }

    private static final class CommandText {
        private static final int MOST_BYTES = 150;

        int length;
        private final byte[] bytes = new byte[MOST_BYTES];

        boolean isFull() {
            return length >= MOST_BYTES;
        }

        int append(int value) {
            if (!isFull()) {
                bytes[length] = (byte) value;
                length++;
            }
            return length;
        }

        int byteAt(int at) {
            return at >= 0 && at < length ? bytes[at] : NONE;
        }

        boolean holds(String word, int from, int end) {
            if (end - from != word.length()) {
                return false;
            }
            for (int i = 0; i < word.length(); i++) {
                if (byteAt(from + i) != word.charAt(i)) {
                    return false;
                }
            }
            return true;
        }
    }

    private enum Word {
        UNKNOWN("", 0),
        PLATE("plate", 2),
        READ("read", 3),
        CANCEL("cancel", 1),
        SET("set", 2),
        TICKS("ticks", 1);

        final String letters;
        final int numbers;

        Word(String letters, int numbers) {
            this.letters = letters;
            this.numbers = numbers;
        }
    }

    /** Takes a command text byte by byte; behind a semicolon it holds the command that ended there. */
    private static final class CommandScan {
        private static final Word[] WORDS = Word.values();
        private static final int IN_FRONT = 0;
        private static final int IN_WORD = 1;
        private static final int IN_GAP = 2;
        private static final int IN_NUMBER = 3;
        private static final int MOST_NUMBERS = 3;
        private static final int MOST_DIGITS = 4;

        Word word = Word.UNKNOWN;
        final int[] numbers = new int[MOST_NUMBERS];
        private int place = IN_FRONT;
        private int wordStart;
        private int numberCount;
        private int digits;

        void begin() {
            place = IN_FRONT;
        }

        int faultOf(CommandText text) {
            begin();
            for (int at = 0; at < text.length; at++) {
                int fault = take(text, at);
                if (fault != NONE) {
                    return fault;
                }
            }
            if (place == IN_FRONT) {
                return NONE;
            }
            boolean unknown = place == IN_WORD
                    && wordIn(text, wordStart, text.length) == Word.UNKNOWN;
            return unknown ? wordStart : text.length;
        }

        /** Returns the fault that shows with this byte, or NONE. */
        int take(CommandText text, int at) {
            int value = text.byteAt(at);
            switch (place) {
                case IN_FRONT: return takeInFront(value, at);
                case IN_WORD: return takeInWord(text, value, at);
                case IN_GAP: return takeInGap(value, at);
                default: return takeInNumber(value, at);
            }
        }

        private int takeInFront(int value, int at) {
            if (value == ' ') {
                return NONE;
            }
            if (!isLetter(value)) {
                return at;
            }
            place = IN_WORD;
            wordStart = at;
            return NONE;
        }

        private int takeInWord(CommandText text, int value, int at) {
            if (isLetter(value)) {
                return NONE;
            }
            word = wordIn(text, wordStart, at);
            if (word == Word.UNKNOWN) {
                return wordStart;
            }
            if (value != ' ') {
                return at;
            }
            place = IN_GAP;
            numberCount = 0;
            return NONE;
        }

        private int takeInGap(int value, int at) {
            if (!isDigit(value)) {
                return takeBehindNumber(value, at);
            }
            if (numberCount >= word.numbers || numberCount >= MOST_NUMBERS) {
                return at;
            }
            place = IN_NUMBER;
            numbers[numberCount] = value - '0';
            numberCount++;
            digits = 1;
            return NONE;
        }

        private int takeInNumber(int value, int at) {
            if (!isDigit(value)) {
                return takeBehindNumber(value, at);
            }
            if (digits >= MOST_DIGITS || numberCount < 1) {
                return at;
            }
            numbers[numberCount - 1] = 10 * numbers[numberCount - 1] + value - '0';
            digits++;
            return NONE;
        }

        private int takeBehindNumber(int value, int at) {
            if (value == ' ') {
                place = IN_GAP;
                return NONE;
            }
            if (value == ';' && numberCount == word.numbers) {
                place = IN_FRONT;
                return NONE;
            }
            return at;
        }

        private static Word wordIn(CommandText text, int from, int end) {
            for (int i = 0; i < WORDS.length; i++) {
                if (text.holds(WORDS[i].letters, from, end)) {
                    return WORDS[i];
                }
            }
            return Word.UNKNOWN;
        }

        private static boolean isLetter(int value) {
            return value >= 'a' && value <= 'z';
        }

        private static boolean isDigit(int value) {
            return value >= '0' && value <= '9';
        }
    }
}
