public final class SubflowBundle {
    public static final int NONE = -1;
    public static final int OVER = -2;

    private static final int PATHS = 4;
    private static final int PIPE_ROOM = 6;
    private static final int MAX_UNACKED = 3;
    private static final int MAX_BYTES = 400;
    private static final int MAX_UNITS = MAX_BYTES + 1;
    // A unit is in at most one segment of a path: while that one is unacknowledged the unit is not
    // loose for the path, and afterwards it is either acknowledged or the path is closed.
    private static final int MAX_NUMBERS = MAX_UNITS + 1;
    private static final int MAX_DELAY = 40;
    private static final int MAX_TICKS = 60;

    private static final int NEW = 0;
    private static final int OPENING = 1;
    private static final int OPEN = 2;
    private static final int STALE = 3;
    private static final int CLOSED = 4;

    private static final int SYN = 0;
    private static final int DATA = 1;
    private static final int ACK = 2;
    private static final int REFUSE = 3;

    private static final int END_VALUE = 256;
    private static final int STOPPED = -1;
    private static final int FIRST_TIMEOUT = 16;
    private static final int LEAST_TIMEOUT = 6;
    private static final int MOST_TIMEOUT = 120;
    private static final int LOW_HALF = 65535;

    private final int ownToken;
    private final Stream stream;
    private final Path[] paths;
    private final HostA a;
    private final HostB b;
    private int now;

    public SubflowBundle(int mss, int buffer, int key) {
        int room = clamp(buffer, 4, 56);
        ownToken = tokenOf(key);
        stream = new Stream();
        paths = new Path[PATHS];
        for (int p = 0; p < PATHS; p++) {
            paths[p] = new Path();
        }
        a = new HostA(stream, paths, clamp(mss, 1, 7), room);
        b = new HostB(stream, room, ownToken);
        now = 0;
    }

    public boolean open(int p, int delay, int token) {
        if (!isPath(p) || paths[p].state != NEW || delay < 1 || delay > MAX_DELAY) {
            return false;
        }
        if (!a.everOpen && isAnyIn(OPENING)) {
            return false;
        }
        paths[p].delay = delay;
        a.sendSyn(paths[p], token, now);
        return true;
    }

    public boolean close(int p) {
        if (!isInUse(p)) {
            return false;
        }
        paths[p].shut();
        return true;
    }

    public int write(int n, int v) {
        return stream.append(n, v);
    }

    public boolean finish() {
        return stream.appendEnd();
    }

    public int read() {
        return b.takeNext();
    }

    public int pass(int n) {
        if (n < 0 || n > MAX_TICKS) {
            return NONE;
        }
        int arrived = 0;
        for (int i = 0; i < n; i++) {
            arrived += tick();
        }
        return arrived;
    }

    public boolean delay(int p, int d) {
        if (!isInUse(p) || d < 0 || d > MAX_DELAY) {
            return false;
        }
        paths[p].delay = d;
        return true;
    }

    public boolean lose(int p, boolean back, int k) {
        return isPath(p) && paths[p].pipe(back).takeOut(k) != null;
    }

    public boolean twice(int p, boolean back, int k, int late) {
        if (!isPath(p) || late < 1 || late > MAX_DELAY) {
            return false;
        }
        Pipe pipe = paths[p].pipe(back);
        Copy model = pipe.copyAt(k);
        if (model == null) {
            return false;
        }
        Copy newest = pipe.append(now + late);
        if (newest == null) {
            return false;
        }
        newest.fill(model.kind, model.units, model.first, model.second, model.third);
        return true;
    }

    public int flight(int p, boolean back) {
        return isPath(p) ? paths[p].pipe(back).size : NONE;
    }

    public int word(int p, boolean back, int k, int i) {
        if (!isPath(p)) {
            return 0;
        }
        Copy copy = paths[p].pipe(back).copyAt(k);
        if (copy == null) {
            return 0;
        }
        switch (i) {
            case 0:
                return headOf(copy, p);
            case 1:
                return copy.first;
            case 2:
                return copy.second;
            case 3:
                return copy.third;
            default:
                return 0;
        }
    }

    public int state(int p) {
        return isPath(p) ? paths[p].state : NONE;
    }

    public int smooth(int p) {
        return isPath(p) && paths[p].isMeasured ? paths[p].smoothed : NONE;
    }

    public int timeout(int p) {
        return isPath(p) ? paths[p].timeout : NONE;
    }

    public int unacked(int p) {
        return isPath(p) ? paths[p].unackedNumbers() : NONE;
    }

    public int acknowledged() {
        return a.acknowledged;
    }

    public int received() {
        return b.received;
    }

    public int sent(int p) {
        return isPath(p) ? paths[p].sendings : NONE;
    }

    public int reinjected() {
        return a.reinjected;
    }

    public int token() {
        return ownToken;
    }

    private static int clamp(int value, int least, int most) {
        return Math.max(least, Math.min(most, value));
    }

    private static int tokenOf(int key) {
        int t = Integer.rotateLeft(key, 7) * 75011 + 1234577;
        return t ^ (t >>> 16);
    }

    private static boolean isPath(int p) {
        return p >= 0 && p < PATHS;
    }

    private boolean isInUse(int p) {
        return isPath(p) && paths[p].state != NEW && paths[p].state != CLOSED;
    }

    private boolean isAnyIn(int wanted) {
        for (int p = 0; p < PATHS; p++) {
            if (paths[p].state == wanted) {
                return true;
            }
        }
        return false;
    }

    private int tick() {
        now++;
        int arrived = 0;
        for (int p = 0; p < PATHS; p++) {
            arrived += deliverForward(p);
            arrived += deliverBack(p);
        }
        for (int p = 0; p < PATHS; p++) {
            if (paths[p].timer == now) {
                a.ring(paths[p], now);
            }
        }
        a.sendAll(now);
        return arrived;
    }

    private int deliverForward(int p) {
        int arrived = 0;
        for (int i = 0; i < PIPE_ROOM; i++) {
            Copy copy = paths[p].forward.takeDue(now);
            if (copy == null) {
                break;
            }
            arrived++;
            b.hear(copy, p, paths[p], now);
        }
        return arrived;
    }

    private int deliverBack(int p) {
        int arrived = 0;
        // A REFUSE empties the pipe: looking anew for each copy keeps the rest from arriving.
        for (int i = 0; i < PIPE_ROOM; i++) {
            Copy copy = paths[p].back.takeDue(now);
            if (copy == null) {
                break;
            }
            arrived++;
            a.hear(copy, paths[p], now);
        }
        return arrived;
    }

    private int headOf(Copy copy, int p) {
        int high = copy.kind << 14 | p << 12 | copy.units;
        int sum = high + halves(copy.first) + halves(copy.second) + halves(copy.third);
        for (int i = 0; i < copy.units; i++) {
            sum += stream.valueOf(copy.second + i);
        }
        // Seven halves and seven units make less than 2^19, which two folds bring below 2^16.
        for (int fold = 0; fold < 4 && sum > LOW_HALF; fold++) {
            sum = sum % 65536 + sum / 65536;
        }
        return high << 16 | LOW_HALF - sum;
    }

    private static int halves(int word) {
        return (word >>> 16) + (word & LOW_HALF);
    }

    /** The units of the stream, with their values for the checksum. */
    private static final class Stream {
        private final int[] values = new int[MAX_UNITS];
        private int length;
        private boolean isEnded;

        int append(int n, int v) {
            if (isEnded || n < 1) {
                return 0;
            }
            int added = Math.min(n, MAX_BYTES - length);
            for (int i = 0; i < added; i++) {
                values[length + i] = (v + i) & 255;
            }
            length += added;
            return added;
        }

        boolean appendEnd() {
            if (isEnded || length >= MAX_UNITS) {
                return false;
            }
            values[length] = END_VALUE;
            length++;
            isEnded = true;
            return true;
        }

        int valueOf(int unit) {
            return unit >= 0 && unit < length ? values[unit] : 0;
        }
    }

    /** One copy in a pipe: its last three words are kept, its first is worked out when asked for. */
    private static final class Copy {
        private int kind;
        private int units;
        private int first;
        private int second;
        private int third;
        private int due;

        void fill(int newKind, int newUnits, int newFirst, int newSecond, int newThird) {
            kind = newKind;
            units = newUnits;
            first = newFirst;
            second = newSecond;
            third = newThird;
        }
    }

    /** The copies under way in one direction, the oldest first; behind them the free ones, for use again. */
    private static final class Pipe {
        private final Copy[] copies = new Copy[PIPE_ROOM];
        private int size;

        Pipe() {
            for (int i = 0; i < PIPE_ROOM; i++) {
                copies[i] = new Copy();
            }
        }

        Copy copyAt(int k) {
            return k >= 0 && k < size ? copies[k] : null;
        }

        Copy append(int due) {
            if (size >= PIPE_ROOM) {
                return null;
            }
            Copy newest = copies[size];
            newest.due = due;
            size++;
            return newest;
        }

        Copy takeOut(int k) {
            Copy out = copyAt(k);
            if (out == null) {
                return null;
            }
            for (int i = k + 1; i < size; i++) {
                copies[i - 1] = copies[i];
            }
            size--;
            copies[size] = out;
            return out;
        }

        Copy takeDue(int now) {
            for (int k = 0; k < size; k++) {
                if (copies[k].due == now) {
                    return takeOut(k);
                }
            }
            return null;
        }

        void empty() {
            size = 0;
        }
    }

    /** An unacknowledged segment. SYN has one number and no unit. */
    private static final class Segment {
        private int number;
        private int numbers;
        private int unit;
        private int units;
        private int sentAt;
        private int times;

        void fill(int newNumber, int newNumbers, int newUnit, int newUnits) {
            number = newNumber;
            numbers = newNumbers;
            unit = newUnit;
            units = newUnits;
            times = 0;
        }
    }

    /** A path with its pipes and what A knows of it. */
    private static final class Path {
        private final Pipe forward = new Pipe();
        private final Pipe back = new Pipe();
        private final Segment[] segments = new Segment[MAX_UNACKED];
        private int segmentCount;
        private int nextNumber;
        private int state = NEW;
        private int delay;
        private int synToken;
        private int timeout = FIRST_TIMEOUT;
        private int timer = STOPPED;
        private boolean isMeasured;
        private int smoothed;
        private int variation;
        private int sendings;

        Path() {
            for (int i = 0; i < MAX_UNACKED; i++) {
                segments[i] = new Segment();
            }
        }

        Pipe pipe(boolean isBack) {
            return isBack ? back : forward;
        }

        /** The place of a copy that is sent now, to be filled; null when it is lost at once. */
        Copy dispatch(boolean isBack, int now) {
            return delay == 0 ? null : pipe(isBack).append(now + delay);
        }

        boolean hasRoom() {
            return segmentCount < MAX_UNACKED;
        }

        Segment addSegment(int numbers, int unit, int units) {
            if (!hasRoom()) {
                return null;
            }
            Segment newest = segments[segmentCount];
            newest.fill(nextNumber, numbers, unit, units);
            segmentCount++;
            nextNumber += numbers;
            return newest;
        }

        /** The unacknowledged segment with the least numbers if all of them are below the limit, taken out. */
        Segment takeBelow(int limit) {
            if (segmentCount == 0 || segments[0].number + segments[0].numbers > limit) {
                return null;
            }
            Segment out = segments[0];
            for (int i = 1; i < segmentCount; i++) {
                segments[i - 1] = segments[i];
            }
            segmentCount--;
            segments[segmentCount] = out;
            return out;
        }

        boolean bears(int unit) {
            for (int i = 0; i < segmentCount; i++) {
                Segment segment = segments[i];
                if (unit >= segment.unit && unit < segment.unit + segment.units) {
                    return true;
                }
            }
            return false;
        }

        int unackedNumbers() {
            int sum = 0;
            for (int i = 0; i < segmentCount; i++) {
                sum += segments[i].numbers;
            }
            return sum;
        }

        void measure(int r) {
            if (isMeasured) {
                variation = variation - variation / 4 + Math.abs(smoothed / 8 - r);
                smoothed = smoothed - smoothed / 8 + r;
            } else {
                smoothed = 8 * r;
                variation = 2 * r;
                isMeasured = true;
            }
            timeout = clamp(smoothed / 8 + variation, LEAST_TIMEOUT, MOST_TIMEOUT);
        }

        boolean isQuickerThan(Path other) {
            return isMeasured && (!other.isMeasured || smoothed < other.smoothed);
        }

        void shut() {
            state = CLOSED;
            forward.empty();
            back.empty();
            timer = STOPPED;
            segmentCount = 0;
        }
    }

    private static final class HostA {
        private final Stream stream;
        private final Path[] paths;
        private final int mss;
        private final boolean[] isSettled = new boolean[MAX_UNITS];
        private final boolean[] wasCarried = new boolean[MAX_UNITS];
        private int acknowledged;
        private int edge;
        private int reinjected;
        private boolean everOpen;

        HostA(Stream stream, Path[] paths, int mss, int buffer) {
            this.stream = stream;
            this.paths = paths;
            this.mss = mss;
            this.edge = buffer;
        }

        void sendSyn(Path path, int token, int now) {
            path.state = OPENING;
            path.synToken = token;
            sendFirst(path, path.addSegment(1, 0, 0), now);
        }

        void hear(Copy copy, Path path, int now) {
            if (copy.kind == REFUSE) {
                path.shut();
                return;
            }
            acknowledged = Math.max(acknowledged, copy.second);
            edge = Math.max(edge, copy.third);
            Segment last = settleBelow(path, copy.first);
            if (last == null) {
                return;
            }
            // A segment sent again tells no round trip: the ACK may answer any of its copies.
            if (last.times == 1) {
                path.measure(now - last.sentAt);
            }
            path.state = OPEN;
            everOpen = true;
            path.timer = path.segmentCount == 0 ? STOPPED : now + path.timeout;
        }

        private Segment settleBelow(Path path, int limit) {
            Segment last = null;
            for (int i = 0; i < MAX_UNACKED; i++) {
                Segment next = path.takeBelow(limit);
                if (next == null) {
                    break;
                }
                for (int u = next.unit; u < next.unit + next.units && u < MAX_UNITS; u++) {
                    isSettled[u] = true;
                }
                last = next;
            }
            return last;
        }

        void ring(Path path, int now) {
            path.timeout = Math.min(2 * path.timeout, MOST_TIMEOUT);
            path.timer = now + path.timeout;
            if (path.state == OPEN) {
                path.state = STALE;
            }
            if (path.segmentCount > 0) {
                transmit(path, path.segments[0], now);
            }
        }

        void sendAll(int now) {
            // Sending changes no state and acknowledges nothing: so many segments fill all paths.
            int wanted = isAnyOpen() ? OPEN : STALE;
            for (int i = 0; i < PATHS * MAX_UNACKED; i++) {
                Path path = quickestThatCan(wanted);
                if (path == null) {
                    return;
                }
                sendFirst(path, nextSegment(path), now);
            }
        }

        private boolean isAnyOpen() {
            for (int p = 0; p < PATHS; p++) {
                if (paths[p].state == OPEN) {
                    return true;
                }
            }
            return false;
        }

        private Path quickestThatCan(int wanted) {
            Path best = null;
            for (int p = 0; p < PATHS; p++) {
                Path path = paths[p];
                boolean isCandidate = path.state == wanted && path.hasRoom();
                if (isCandidate && (best == null || path.isQuickerThan(best)) && firstUnit(path) != NONE) {
                    best = path;
                }
            }
            return best;
        }

        /** The unit that the next segment of the path begins with; NONE when the path can not get one. */
        private int firstUnit(Path path) {
            for (int u = acknowledged; u < stream.length && u <= edge; u++) {
                if (isLoose(u, path)) {
                    boolean isProbe = u == acknowledged && path.segmentCount == 0;
                    return u < edge || isProbe ? u : NONE;
                }
            }
            return NONE;
        }

        private boolean isLoose(int unit, Path path) {
            if (unit < acknowledged || unit >= stream.length || isSettled[unit]) {
                return false;
            }
            for (int p = 0; p < PATHS; p++) {
                Path other = paths[p];
                if ((other == path || other.state == OPEN) && other.bears(unit)) {
                    return false;
                }
            }
            return true;
        }

        private Segment nextSegment(Path path) {
            int first = firstUnit(path);
            if (first == NONE) {
                return null;
            }
            int units = 1;
            while (units < mss && first + units < edge && isLoose(first + units, path)) {
                units++;
            }
            countCarried(first, units);
            return path.addSegment(units, first, units);
        }

        private void countCarried(int first, int units) {
            for (int u = first; u < first + units && u < MAX_UNITS; u++) {
                if (wasCarried[u]) {
                    reinjected++;
                }
                wasCarried[u] = true;
            }
        }

        private void sendFirst(Path path, Segment segment, int now) {
            if (segment == null) {
                return;
            }
            if (path.timer == STOPPED) {
                path.timer = now + path.timeout;
            }
            transmit(path, segment, now);
        }

        private void transmit(Path path, Segment segment, int now) {
            segment.times++;
            segment.sentAt = now;
            path.sendings++;
            Copy copy = path.dispatch(false, now);
            if (copy == null) {
                return;
            }
            if (segment.units == 0) {
                copy.fill(SYN, 0, 0, path.synToken, 0);
            } else {
                int lastValue = stream.valueOf(segment.unit + segment.units - 1);
                copy.fill(DATA, segment.units, segment.number, segment.unit, lastValue == END_VALUE ? 1 : 0);
            }
        }
    }

    /** What B took on one path. */
    private static final class Arrivals {
        private final boolean[] isTaken = new boolean[MAX_NUMBERS];
        private int expected;

        boolean took(int number) {
            return number < 0 || number >= MAX_NUMBERS || isTaken[number];
        }

        void take(int number, int numbers) {
            for (int n = number; n < number + numbers && n < MAX_NUMBERS; n++) {
                isTaken[n] = true;
            }
            while (expected < MAX_NUMBERS && isTaken[expected]) {
                expected++;
            }
        }
    }

    private static final class HostB {
        private final Stream stream;
        private final int buffer;
        private final int token;
        private final Arrivals[] arrivals = new Arrivals[PATHS];
        private final boolean[] hasUnit = new boolean[MAX_UNITS];
        private int received;
        private int unitsRead;
        private boolean tookSyn;

        HostB(Stream stream, int buffer, int token) {
            this.stream = stream;
            this.buffer = buffer;
            this.token = token;
            for (int p = 0; p < PATHS; p++) {
                arrivals[p] = new Arrivals();
            }
        }

        void hear(Copy copy, int p, Path path, int now) {
            Arrivals here = arrivals[p];
            if (copy.kind == DATA) {
                hearData(copy, here);
            } else if (here.expected == 0) {
                if (tookSyn && copy.second != token) {
                    answer(path, REFUSE, here, now);
                    return;
                }
                tookSyn = true;
                here.take(0, 1);
            }
            answer(path, ACK, here, now);
        }

        private void hearData(Copy copy, Arrivals here) {
            int end = copy.second + copy.units;
            if (here.took(copy.first) || end > limit()) {
                return;
            }
            here.take(copy.first, copy.units);
            for (int u = copy.second; u < end && u < MAX_UNITS; u++) {
                hasUnit[u] = true;
            }
            while (received < MAX_UNITS && hasUnit[received]) {
                received++;
            }
        }

        private int limit() {
            return unitsRead + buffer;
        }

        private void answer(Path path, int kind, Arrivals here, int now) {
            Copy copy = path.dispatch(true, now);
            if (copy == null) {
                return;
            }
            if (kind == REFUSE) {
                copy.fill(REFUSE, 0, 0, 0, 0);
            } else {
                copy.fill(ACK, 0, here.expected, received, limit());
            }
        }

        int takeNext() {
            if (unitsRead >= received) {
                return NONE;
            }
            int value = stream.valueOf(unitsRead);
            if (value == END_VALUE) {
                return OVER;
            }
            unitsRead++;
            return value;
        }
    }
}
