import java.util.ArrayList;
import java.util.Arrays;
import java.util.Comparator;
import java.util.List;
import java.util.Random;
import java.util.TreeSet;

/**
 * Runs of mixed calls, told by a fixed seed, on the class and on a model that follows the
 * document's sentences one by one and cares for nothing else. Some runs look at everything after
 * almost every call, others make hundreds of calls between two looks.
 */
public final class ModelTest {
    private static final int RUNS = 6000;
    /** What an object answers after so many calls is free: looks count too. */
    private static final int CALLS = 512;
    /** How many calls there are between two looks at everything, about: many looks make short runs. */
    private static final int[] PAUSES = {1, 5, 25, 200};
    private static int wrong = 0;

    public static void main(String[] args) {
        for (int run = 0; run < RUNS && wrong < 10; run++) {
            oneRun(run);
        }
        System.out.println(wrong == 0 ? "class and model agree" : wrong + " answers are not as due");
        if (wrong != 0) {
            System.exit(1);
        }
    }

    private static void oneRun(int run) {
        Random dice = new Random(run);
        int mss = dice.nextInt(11) - 1;
        int buffer = dice.nextBoolean() ? dice.nextInt(70) - 3 : 4 + dice.nextInt(12);
        int key = dice.nextInt();
        SubflowBundle x = new SubflowBundle(mss, buffer, key);
        Model m = new Model(mss, buffer, key);
        // Some runs are rough and some smooth, so that all states come up.
        int trouble = dice.nextInt(4);
        int longest = 1 + dice.nextInt(dice.nextInt(3) == 0 ? 61 : 12);
        int pause = PAUSES[run % PAUSES.length];
        int untilLook = dice.nextInt(2 * pause);
        int left = CALLS;
        while (left > 0) {
            String told = oneCall(dice, x, m, trouble, longest);
            left--;
            untilLook--;
            if (told == null && untilLook < 0 && left >= m.callsOfLook()) {
                left -= m.callsOfLook();
                untilLook = dice.nextInt(2 * pause);
                told = look(x, m);
            }
            if (told != null) {
                wrong++;
                System.out.println("run " + run + ", with " + left + " calls left: " + told);
                return;
            }
        }
    }

    private static String oneCall(Random dice, SubflowBundle x, Model m, int trouble, int longest) {
        int p = dice.nextInt(40) == 0 ? dice.nextInt(9) - 3 : dice.nextInt(4);
        boolean back = dice.nextBoolean();
        int k = dice.nextInt(12) == 0 ? dice.nextInt(9) - 1 : dice.nextInt(3);
        int kind = dice.nextInt(100);
        if (kind < 8) {
            int delay = dice.nextInt(12) == 0 ? dice.nextInt(44) - 1 : 1 + dice.nextInt(9);
            int token = dice.nextInt(5) == 0 ? dice.nextInt() : m.token;
            return same("open", x.open(p, delay, token), m.open(p, delay, token));
        }
        if (kind < 9 && dice.nextInt(4) <= trouble) {
            return same("close", x.close(p), m.close(p));
        }
        if (kind < 22) {
            int n = dice.nextInt(20) == 0 ? dice.nextInt() : dice.nextInt(40) - 1;
            int v = dice.nextInt();
            return same("write", x.write(n, v), m.write(n, v));
        }
        if (kind < 23 && dice.nextInt(6) == 0) {
            return same("finish", x.finish(), m.finish());
        }
        if (kind < 50) {
            return same("read", x.read(), m.read());
        }
        if (kind < 80) {
            int n = dice.nextInt(30) == 0 ? dice.nextInt(66) - 2 : dice.nextInt(longest);
            return same("pass", x.pass(n), m.pass(n));
        }
        if (kind < 83 && trouble > 0) {
            int d = dice.nextInt(3) == 0 ? 0 : dice.nextInt(trouble == 1 ? 43 : 8) - 1;
            return same("delay", x.delay(p, d), m.delay(p, d));
        }
        if (kind < 91 && trouble > 1) {
            return same("lose", x.lose(p, back, k), m.lose(p, back, k));
        }
        if (kind < 97 && trouble > 0) {
            int late = dice.nextInt(8) == 0 ? dice.nextInt(45) - 2 : 1 + dice.nextInt(12);
            return same("twice", x.twice(p, back, k, late), m.twice(p, back, k, late));
        }
        return oneLook(dice, x, m, p, back, k);
    }

    private static String oneLook(Random dice, SubflowBundle x, Model m, int p, boolean back, int k) {
        int i = dice.nextInt(6) == 0 ? dice.nextInt() : dice.nextInt(6) - 1;
        switch (dice.nextInt(12)) {
            case 0:
                return same("state", x.state(p), m.state(p));
            case 1:
                return same("smooth", x.smooth(p), m.smooth(p));
            case 2:
                return same("timeout", x.timeout(p), m.timeout(p));
            case 3:
                return same("unacked", x.unacked(p), m.unacked(p));
            case 4:
                return same("sent", x.sent(p), m.sent(p));
            case 5:
                return same("flight", x.flight(p, back), m.flight(p, back));
            case 6:
                return same("acknowledged", x.acknowledged(), m.acknowledged);
            case 7:
                return same("received", x.received(), m.received());
            case 8:
                return same("reinjected", x.reinjected(), m.reinjected);
            default:
                return same("word " + i + " of copy " + k, x.word(p, back, k, i), m.word(p, back, k, i));
        }
    }

    /** All that there is to see; as many calls as the model's callsOfLook says. */
    private static String look(SubflowBundle x, Model m) {
        for (int p = 0; p < 4; p++) {
            String told = first(
                same("state", x.state(p), m.state(p)),
                same("smooth", x.smooth(p), m.smooth(p)),
                same("timeout", x.timeout(p), m.timeout(p)),
                same("unacked", x.unacked(p), m.unacked(p)),
                same("sent", x.sent(p), m.sent(p)),
                same("forward flight", x.flight(p, false), m.flight(p, false)),
                same("back flight", x.flight(p, true), m.flight(p, true)),
                words(x, m, p, false),
                words(x, m, p, true));
            if (told != null) {
                return told + " on path " + p;
            }
        }
        return first(
            same("acknowledged", x.acknowledged(), m.acknowledged),
            same("received", x.received(), m.received()),
            same("reinjected", x.reinjected(), m.reinjected),
            same("token", x.token(), m.token));
    }

    private static String words(SubflowBundle x, Model m, int p, boolean back) {
        for (int k = 0; k < m.flight(p, back); k++) {
            for (int i = 0; i < 4; i++) {
                if (x.word(p, back, k, i) != m.word(p, back, k, i)) {
                    return "word " + i + " of copy " + k + (back ? " back" : " forward");
                }
            }
        }
        return null;
    }

    private static String first(String... told) {
        for (String t : told) {
            if (t != null) {
                return t;
            }
        }
        return null;
    }

    private static String same(String what, long got, long want) {
        return got == want ? null : what + " answered " + got + ", due is " + want;
    }

    private static String same(String what, boolean got, boolean want) {
        return got == want ? null : what + " answered " + got + ", due is " + want;
    }

    private static final class Model {
        static final class Seg {
            boolean syn;
            int number;
            List<Integer> units = new ArrayList<>();
            List<Integer> sendTimes = new ArrayList<>();
            boolean acked;
            boolean dropped;
            boolean takenByB;

            int size() {
                return syn ? 1 : units.size();
            }

            boolean unacked() {
                return !acked && !dropped;
            }
        }

        static final class Copy {
            int kind;
            Seg seg;
            int[] words = new int[4];
            int due;
        }

        static final class Way {
            int state;
            int delay;
            int token;
            List<Copy> forward = new ArrayList<>();
            List<Copy> back = new ArrayList<>();
            List<Seg> segs = new ArrayList<>();
            int expects;
            int timeout = 16;
            Integer timer;
            boolean measured;
            int s;
            int v;
            int sendings;
        }

        final int mss;
        final int buffer;
        final int token;
        final Way[] ways = {new Way(), new Way(), new Way(), new Way()};
        final List<Integer> stream = new ArrayList<>();
        final TreeSet<Integer> atB = new TreeSet<>();
        boolean finished;
        boolean everOpen;
        boolean synTaken;
        int read;
        int now;
        int acknowledged;
        int edge;
        int reinjected;

        Model(int mss, int buffer, int key) {
            this.mss = mss < 1 ? 1 : mss > 7 ? 7 : mss;
            this.buffer = buffer < 4 ? 4 : buffer > 56 ? 56 : buffer;
            this.edge = this.buffer;
            long turned = ((key & 0xffffffffL) << 7 | (key & 0xffffffffL) >> 25) & 0xffffffffL;
            long t = (turned * 75011 + 1234577) & 0xffffffffL;
            this.token = (int) (t ^ t >> 16);
        }

        int callsOfLook() {
            int copies = 0;
            for (Way w : ways) {
                copies += w.forward.size() + w.back.size();
            }
            return 4 * 7 + 4 * copies + 4;
        }

        boolean isPath(int p) {
            return p >= 0 && p <= 3;
        }

        boolean open(int p, int delay, int token) {
            if (!isPath(p) || ways[p].state != 0 || delay < 1 || delay > 40) {
                return false;
            }
            if (!everOpen && Arrays.stream(ways).anyMatch(w -> w.state == 1)) {
                return false;
            }
            Way w = ways[p];
            w.state = 1;
            w.delay = delay;
            w.token = token;
            Seg syn = new Seg();
            syn.syn = true;
            w.segs.add(syn);
            sendFirst(p, syn);
            return true;
        }

        boolean close(int p) {
            if (!isPath(p) || ways[p].state == 0 || ways[p].state == 4) {
                return false;
            }
            Way w = ways[p];
            w.state = 4;
            w.forward.clear();
            w.back.clear();
            w.timer = null;
            for (Seg seg : w.segs) {
                seg.dropped = seg.dropped || !seg.acked;
            }
            return true;
        }

        int write(int n, int v) {
            int count = 0;
            if (finished) {
                return 0;
            }
            while (count < n && stream.size() < 400) {
                stream.add((v + count) & 0xff);
                count++;
            }
            return count;
        }

        boolean finish() {
            if (finished) {
                return false;
            }
            finished = true;
            stream.add(256);
            return true;
        }

        int read() {
            if (!atB.contains(read)) {
                return -1;
            }
            return stream.get(read) == 256 ? -2 : stream.get(read++);
        }

        boolean delay(int p, int d) {
            if (!isPath(p) || ways[p].state == 0 || ways[p].state == 4 || d < 0 || d > 40) {
                return false;
            }
            ways[p].delay = d;
            return true;
        }

        boolean lose(int p, boolean back, int k) {
            if (!isPath(p) || k < 0 || k >= pipe(p, back).size()) {
                return false;
            }
            pipe(p, back).remove(k);
            return true;
        }

        boolean twice(int p, boolean back, int k, int late) {
            if (!isPath(p) || k < 0 || k >= pipe(p, back).size() || late < 1 || late > 40
                    || pipe(p, back).size() == 6) {
                return false;
            }
            Copy old = pipe(p, back).get(k);
            Copy c = new Copy();
            c.kind = old.kind;
            c.seg = old.seg;
            c.words = old.words;
            c.due = now + late;
            pipe(p, back).add(c);
            return true;
        }

        int state(int p) {
            return isPath(p) ? ways[p].state : -1;
        }

        int smooth(int p) {
            return isPath(p) && ways[p].measured ? ways[p].s : -1;
        }

        int timeout(int p) {
            return isPath(p) ? ways[p].timeout : -1;
        }

        int unacked(int p) {
            return isPath(p) ? ways[p].segs.stream().filter(Seg::unacked).mapToInt(Seg::size).sum() : -1;
        }

        int sent(int p) {
            return isPath(p) ? ways[p].sendings : -1;
        }

        int flight(int p, boolean back) {
            return isPath(p) ? pipe(p, back).size() : -1;
        }

        int word(int p, boolean back, int k, int i) {
            if (!isPath(p) || k < 0 || k >= pipe(p, back).size() || i < 0 || i > 3) {
                return 0;
            }
            return pipe(p, back).get(k).words[i];
        }

        List<Copy> pipe(int p, boolean back) {
            return back ? ways[p].back : ways[p].forward;
        }

        void put(int p, boolean back, int kind, Seg seg, int... last) {
            if (pipe(p, back).size() >= 6 || ways[p].delay == 0) {
                return;
            }
            Copy c = new Copy();
            c.kind = kind;
            c.seg = seg;
            c.due = now + ways[p].delay;
            int units = seg == null ? 0 : seg.units.size();
            long top = kind * 0x4000L + p * 0x1000L + units;
            long s = top;
            for (int i = 0; i < 3; i++) {
                c.words[i + 1] = last[i];
                long unsigned = last[i] & 0xffffffffL;
                s += unsigned / 65536 + unsigned % 65536;
            }
            if (seg != null) {
                for (int u : seg.units) {
                    s += stream.get(u);
                }
            }
            while (s > 65535) {
                s = s % 65536 + s / 65536;
            }
            c.words[0] = (int) (top * 65536 + 65535 - s);
            pipe(p, back).add(c);
        }

        void send(int p, Seg seg) {
            ways[p].sendings++;
            seg.sendTimes.add(now);
            if (seg.syn) {
                put(p, false, 0, seg, 0, ways[p].token, 0);
            } else {
                boolean end = seg.units.stream().anyMatch(u -> stream.get(u) == 256);
                put(p, false, 1, seg, seg.number, seg.units.get(0), end ? 1 : 0);
            }
        }

        void sendFirst(int p, Seg seg) {
            if (ways[p].timer == null) {
                ways[p].timer = now + ways[p].timeout;
            }
            send(p, seg);
        }

        int received() {
            int u = 0;
            while (atB.contains(u)) {
                u++;
            }
            return u;
        }

        int pass(int n) {
            if (n < 0 || n > 60) {
                return -1;
            }
            int arrived = 0;
            for (int i = 0; i < n; i++) {
                now++;
                for (int p = 0; p < 4; p++) {
                    arrived += arrivals(p, false) + arrivals(p, true);
                }
                for (int p = 0; p < 4; p++) {
                    if (ways[p].timer != null && ways[p].timer == now) {
                        rings(p);
                    }
                }
                while (sendOne()) {
                }
            }
            return arrived;
        }

        int arrivals(int p, boolean back) {
            int count = 0;
            List<Copy> due = new ArrayList<>(pipe(p, back));
            due.removeIf(c -> c.due != now);
            for (Copy c : due) {
                if (!pipe(p, back).remove(c)) {
                    continue;
                }
                count++;
                if (back) {
                    atA(p, c);
                } else {
                    atB(p, c);
                }
            }
            return count;
        }

        void atB(int p, Copy c) {
            Way w = ways[p];
            if (c.kind == 0 && w.expects == 0) {
                if (synTaken && c.words[2] != token) {
                    put(p, true, 3, null, 0, 0, 0);
                    return;
                }
                synTaken = true;
                c.seg.takenByB = true;
            }
            if (c.kind == 1 && !c.seg.takenByB && c.seg.units.get(c.seg.size() - 1) < read + buffer) {
                c.seg.takenByB = true;
                atB.addAll(c.seg.units);
            }
            w.expects = 0;
            for (Seg seg : w.segs) {
                if (!seg.takenByB) {
                    break;
                }
                w.expects = seg.number + seg.size();
            }
            put(p, true, 2, null, w.expects, received(), read + buffer);
        }

        void atA(int p, Copy c) {
            Way w = ways[p];
            if (c.kind == 3) {
                close(p);
                return;
            }
            acknowledged = c.words[2] > acknowledged ? c.words[2] : acknowledged;
            edge = c.words[3] > edge ? c.words[3] : edge;
            Seg last = null;
            for (Seg seg : w.segs) {
                if (seg.unacked() && seg.number + seg.size() - 1 < c.words[1]) {
                    seg.acked = true;
                    last = seg;
                }
            }
            if (last == null) {
                return;
            }
            if (last.sendTimes.size() == 1) {
                int r = now - last.sendTimes.get(0);
                if (!w.measured) {
                    w.s = 8 * r;
                    w.v = 2 * r;
                    w.measured = true;
                } else {
                    w.v = w.v - Math.floorDiv(w.v, 4) + Math.abs(Math.floorDiv(w.s, 8) - r);
                    w.s = w.s - Math.floorDiv(w.s, 8) + r;
                }
                w.timeout = Math.floorDiv(w.s, 8) + w.v;
                if (w.timeout < 6) {
                    w.timeout = 6;
                }
                if (w.timeout > 120) {
                    w.timeout = 120;
                }
            }
            w.state = 2;
            everOpen = true;
            w.timer = w.segs.stream().anyMatch(Seg::unacked) ? Integer.valueOf(now + w.timeout) : null;
        }

        void rings(int p) {
            Way w = ways[p];
            w.timeout = w.timeout * 2 > 120 ? 120 : w.timeout * 2;
            w.timer = now + w.timeout;
            if (w.state == 2) {
                w.state = 3;
            }
            send(p, w.segs.stream().filter(Seg::unacked).findFirst().get());
        }

        boolean loose(int u, int p) {
            if (u < 0 || u >= stream.size() || u < acknowledged) {
                return false;
            }
            for (int q = 0; q < 4; q++) {
                for (Seg seg : ways[q].segs) {
                    if (seg.units.contains(u)
                            && (seg.acked || seg.unacked() && (q == p || ways[q].state == 2))) {
                        return false;
                    }
                }
            }
            return true;
        }

        boolean sendOne() {
            boolean someOpen = Arrays.stream(ways).anyMatch(w -> w.state == 2);
            List<Integer> order = new ArrayList<>();
            for (int p = 0; p < 4; p++) {
                long open = ways[p].segs.stream().filter(Seg::unacked).count();
                if (ways[p].state == (someOpen ? 2 : 3) && open < 3) {
                    order.add(p);
                }
            }
            order.sort(Comparator.comparingLong(p -> ways[p].measured ? ways[p].s : Long.MAX_VALUE));
            for (int p : order) {
                if (tryPath(p)) {
                    return true;
                }
            }
            return false;
        }

        boolean tryPath(int p) {
            Way w = ways[p];
            int u = 0;
            while (u < stream.size() && !loose(u, p)) {
                u++;
            }
            if (u == stream.size()) {
                return false;
            }
            Seg seg = new Seg();
            if (u < edge) {
                for (int n = u; n < edge && loose(n, p) && seg.units.size() < mss; n++) {
                    seg.units.add(n);
                }
            } else if (u == edge && u == acknowledged && w.segs.stream().noneMatch(Seg::unacked)) {
                seg.units.add(u);
            } else {
                return false;
            }
            for (int n : seg.units) {
                boolean before = false;
                for (Way other : ways) {
                    before = before || other.segs.stream().anyMatch(s -> s.units.contains(n));
                }
                reinjected += before ? 1 : 0;
            }
            Seg newest = w.segs.get(w.segs.size() - 1);
            seg.number = newest.number + newest.size();
            w.segs.add(seg);
            sendFirst(p, seg);
            return true;
        }
    }
}
