/** For each promise, calls on new objects with answers worked out by hand from the document. */
public final class PromiseTest {
    private static final int NONE = SubflowBundle.NONE;
    private static final int OVER = SubflowBundle.OVER;
    private static final int[] NO_PATH = {-1, 4, Integer.MIN_VALUE, Integer.MAX_VALUE};
    private static int promise;
    private static int wrong = 0;

    public static void main(String[] args) {
        newObject();
        open();
        close();
        write();
        finish();
        read();
        pass();
        delay();
        lose();
        twice();
        flight();
        word();
        state();
        smooth();
        timeout();
        unacked();
        acknowledged();
        received();
        sent();
        reinjected();
        token();
        System.out.println(wrong == 0 ? "all promises hold" : wrong + " answers are not as due");
        if (wrong != 0) {
            System.exit(1);
        }
    }

    private static void due(String what, int got, int want) {
        if (got != want) {
            wrong++;
            System.out.println("promise " + promise + ": " + what + " answered " + got + ", due is " + want);
        }
    }

    private static void yes(String what, boolean got) {
        due(what, got ? 1 : 0, 1);
    }

    private static void no(String what, boolean got) {
        due(what, got ? 1 : 0, 0);
    }

    /** An object whose path 0 has just become OPEN, after 2 * delay ticks. */
    private static SubflowBundle opened(int mss, int buffer, int delay) {
        SubflowBundle x = new SubflowBundle(mss, buffer, 0);
        x.open(0, delay, 7);
        x.pass(2 * delay);
        return x;
    }

    private static void openMore(SubflowBundle x, int p, int delay) {
        x.open(p, delay, x.token());
        x.pass(2 * delay);
    }

    private static void newObject() {
        promise = 1;
        tokens();
        segmentSizes();
        int[][] buffers = {{Integer.MIN_VALUE, 4}, {3, 4}, {4, 4}, {5, 5}, {55, 55}, {56, 56}, {57, 56},
            {Integer.MAX_VALUE, 56}};
        for (int[] pair : buffers) {
            SubflowBundle x = new SubflowBundle(4, pair[0], 0);
            x.open(0, 1, 7);
            x.pass(1);
            due("limit with buffer " + pair[0], x.word(0, true, 0, 3), pair[1]);
            x.write(100, 0);
            x.pass(60);
            due("received with buffer " + pair[0], x.received(), pair[1]);
        }
        SubflowBundle x = new SubflowBundle(4, 16, 0);
        for (int p = 0; p < 4; p++) {
            due("state", x.state(p), 0);
            due("flight", x.flight(p, false) + x.flight(p, true), 0);
            due("smooth", x.smooth(p), NONE);
            due("timeout", x.timeout(p), 16);
            due("unacked", x.unacked(p), 0);
            due("sent", x.sent(p), 0);
        }
        due("acknowledged", x.acknowledged(), 0);
        due("received", x.received(), 0);
        due("reinjected", x.reinjected(), 0);
        due("read", x.read(), NONE);
        due("pass", x.pass(60), 0);
    }

    private static void tokens() {
        // Key 1: 128 * 75011 + 1234577 = 0xA55811, and 0xA55811 ^ 0xA5 = 0xA558B4.
        int[][] keys = {{0, 1234563}, {1, 0xA558B4}, {-1, 1159583}, {1 << 31, 6035213}, {1 << 25, 1309575},
            {1 << 24, 0x80125683}};
        for (int[] pair : keys) {
            due("token of " + pair[0], new SubflowBundle(1, 4, pair[0]).token(), pair[1]);
        }
    }

    private static void segmentSizes() {
        int[][] sizes = {{Integer.MIN_VALUE, 1}, {0, 1}, {1, 1}, {2, 2}, {6, 6}, {7, 7}, {8, 7}, {Integer.MAX_VALUE, 7}};
        for (int[] pair : sizes) {
            SubflowBundle x = opened(pair[0], 56, 1);
            x.write(100, 0);
            x.pass(1);
            due("copies with mss " + pair[0], x.flight(0, false), 3);
            due("units with mss " + pair[0], x.word(0, false, 2, 0) >>> 16 & 7, pair[1]);
            due("numbers with mss " + pair[0], x.unacked(0), 3 * pair[1]);
        }
    }

    private static void open() {
        promise = 2;
        SubflowBundle x = new SubflowBundle(4, 16, 0);
        for (int p : NO_PATH) {
            no("open of no path", x.open(p, 3, 7));
        }
        no("delay 0", x.open(1, 0, 7));
        no("delay 41", x.open(1, 41, 7));
        no("delay -1", x.open(1, -1, 7));
        due("state unchanged", x.state(1), 0);
        due("nothing sent", x.sent(1), 0);
        yes("delay 40", x.open(1, 40, 7));
        due("opening", x.state(1), 1);
        due("SYN at once", x.flight(1, false), 1);
        due("its token", x.word(1, false, 0, 2), 7);
        no("opening already", x.open(1, 3, 7));
        no("another one opening", x.open(0, 3, x.token()));
        due("the other is still new", x.state(0), 0);
        x.close(1);
        no("closed", x.open(1, 3, 7));
        yes("none opening any more", x.open(0, 1, 8));
        due("arrivals", x.pass(2), 2);
        due("B had taken no SYN", x.state(0), 2);
        no("open already", x.open(0, 1, 8));
        yes("one was open", x.open(2, 3, x.token()));
        yes("and so with two opening", x.open(3, 3, x.token()));

        SubflowBundle y = opened(4, 16, 2);
        y.close(0);
        yes("one was once open", y.open(1, 3, y.token()));
        yes("a second one", y.open(2, 3, y.token() + 1));
        due("arrivals", y.pass(6), 4);
        due("token fits", y.state(1), 2);
        due("token does not fit", y.state(2), 4);
        firstSynDecides();
        refuseIsLost();
    }

    private static void firstSynDecides() {
        SubflowBundle x = new SubflowBundle(4, 16, 0);
        x.open(0, 2, 7);
        x.pass(3);
        x.close(0);
        yes("none opening", x.open(1, 2, 7));
        due("arrivals", x.pass(4), 2);
        due("B took the first SYN of a path since closed", x.state(1), 4);
        x.open(2, 2, x.token());
        x.pass(4);
        due("fit token", x.state(2), 2);
    }

    private static void refuseIsLost() {
        SubflowBundle x = opened(4, 16, 1);
        x.open(1, 1, 5);
        x.pass(1);
        due("REFUSE under way", x.flight(1, true), 1);
        x.lose(1, true, 0);
        x.pass(14);
        due("still opening", x.state(1), 1);
        due("SYN sent once", x.sent(1), 1);
        x.pass(1);
        due("SYN sent again", x.sent(1), 2);
        x.twice(1, false, 0, 1);
        due("both refused, the first REFUSE closes", x.pass(2), 3);
        due("closed", x.state(1), 4);
        due("pipes emptied", x.flight(1, true), 0);
    }

    private static void close() {
        promise = 3;
        SubflowBundle x = new SubflowBundle(4, 16, 0);
        for (int p : NO_PATH) {
            no("close of no path", x.close(p));
        }
        no("new", x.close(0));
        due("still new", x.state(0), 0);
        x.open(0, 3, 7);
        yes("opening", x.close(0));
        due("closed", x.state(0), 4);
        due("forward pipe", x.flight(0, false), 0);
        due("unacked", x.unacked(0), 0);
        no("closed already", x.close(0));
        due("nothing arrives", x.pass(60), 0);
        due("timer stopped", x.sent(0), 1);
        due("timeout stays", x.timeout(0), 16);

        SubflowBundle y = opened(4, 16, 1);
        openMore(y, 1, 3);
        y.write(4, 0);
        y.pass(2);
        due("ACK under way", y.flight(0, true), 1);
        yes("open", y.close(0));
        due("back pipe", y.flight(0, true), 0);
        y.pass(1);
        due("units sent anew", y.reinjected(), 4);
        due("on the other path", y.unacked(1), 4);
        due("smooth stays", y.smooth(0), 16);
        y.delay(1, 0);
        y.lose(1, false, 0);
        y.pass(18);
        due("stale", y.state(1), 3);
        yes("stale", y.close(1));
        due("closed", y.state(1), 4);
    }

    private static void write() {
        promise = 4;
        SubflowBundle x = opened(7, 56, 1);
        due("0", x.write(0, 1), 0);
        due("-1", x.write(-1, 1), 0);
        due("least", x.write(Integer.MIN_VALUE, 1), 0);
        due("three", x.write(3, -2), 3);
        due("wrapping", x.write(2, Integer.MAX_VALUE), 2);
        x.pass(4);
        int[] values = {254, 255, 0, 255, 0, NONE};
        for (int v : values) {
            due("byte", x.read(), v);
        }
        due("up to 399", x.write(394, 0), 394);
        due("up to 400", x.write(Integer.MAX_VALUE, 0), 1);
        due("full", x.write(1, 0), 0);

        SubflowBundle y = new SubflowBundle(4, 16, 0);
        due("more than 400", y.write(401, 0), 400);
        due("full", y.write(3, 0), 0);
        SubflowBundle z = new SubflowBundle(4, 16, 0);
        z.finish();
        due("after the end", z.write(3, 0), 0);
        z.open(0, 1, 7);
        z.pass(10);
        due("nothing was written", z.received(), 1);
    }

    private static void finish() {
        promise = 5;
        SubflowBundle x = new SubflowBundle(4, 16, 0);
        yes("first", x.finish());
        no("second", x.finish());
        x.open(0, 1, 7);
        x.pass(4);
        due("the END is a unit", x.received(), 1);
        due("over", x.read(), OVER);
        wholeStream();
    }

    private static void wholeStream() {
        SubflowBundle x = opened(7, 56, 1);
        x.write(400, 3);
        yes("behind 400 bytes", x.finish());
        no("again", x.finish());
        int count = 0;
        // 400 reads, and two further calls a round: so many rounds stay within 512 calls.
        for (int round = 0; round < 30; round++) {
            x.pass(30);
            for (int i = 0; i < 60; i++) {
                int got = x.read();
                if (got < 0) {
                    break;
                }
                due("byte " + count, got, (3 + count) & 255);
                count++;
            }
        }
        due("bytes", count, 400);
        due("over", x.read(), OVER);
        due("all units", x.received(), 401);
        due("all known", x.acknowledged(), 401);
    }

    private static void read() {
        promise = 6;
        SubflowBundle x = opened(1, 5, 2);
        due("nothing written", x.read(), NONE);
        x.write(3, 40);
        x.pass(1);
        due("nothing there", x.read(), NONE);
        x.lose(0, false, 0);
        x.pass(2);
        due("the first is not there", x.read(), NONE);
        due("but both others are answered", x.flight(0, true), 2);
        x.pass(40);
        due("first", x.read(), 40);
        due("second", x.read(), 41);
        x.finish();
        x.pass(6);
        due("third", x.read(), 42);
        due("over", x.read(), OVER);
        due("over again", x.read(), OVER);
        due("over still", x.read(), OVER);
        limitWithoutEnd();
    }

    private static void limitWithoutEnd() {
        SubflowBundle x = opened(7, 16, 2);
        x.write(2, 0);
        x.finish();
        x.pass(1);
        x.twice(0, false, 0, 10);
        x.pass(5);
        due("byte", x.read(), 0);
        due("byte", x.read(), 1);
        due("over", x.read(), OVER);
        due("over", x.read(), OVER);
        due("the late copy", x.pass(5), 1);
        due("limit: two units read", x.word(0, true, 0, 3), 18);
        due("received with the END", x.word(0, true, 0, 2), 3);
    }

    private static void pass() {
        promise = 7;
        SubflowBundle x = new SubflowBundle(4, 16, 0);
        x.open(0, 1, 7);
        due("-1", x.pass(-1), NONE);
        due("61", x.pass(61), NONE);
        due("least", x.pass(Integer.MIN_VALUE), NONE);
        due("most", x.pass(Integer.MAX_VALUE), NONE);
        due("no tick", x.flight(0, false), 1);
        due("0", x.pass(0), 0);
        due("still no tick", x.flight(0, false), 1);
        due("60", x.pass(60), 2);
        x.write(4, 0);
        due("sent at the end of a tick", x.pass(1), 0);
        x.twice(0, false, 0, 1);
        due("taken or not", x.pass(2), 4);
        ticksOneByOne();
        orderInOneTick();
        windowAndProbe();
        probeRules();
        edgeStays();
        brokenRun();
        choiceOfPath();
        staleOnes();
    }

    private static void ticksOneByOne() {
        SubflowBundle x = new SubflowBundle(4, 16, 0);
        SubflowBundle y = new SubflowBundle(4, 16, 0);
        x.open(0, 3, 7);
        y.open(0, 3, 7);
        x.write(40, 0);
        y.write(40, 0);
        int sum = 0;
        for (int i = 0; i < 60; i++) {
            sum += x.pass(1);
        }
        due("sixty at once", y.pass(60), sum);
        due("sent", y.sent(0), x.sent(0));
    }

    /** In one tick arrivals come before rings and rings before sending. */
    private static void orderInOneTick() {
        SubflowBundle x = new SubflowBundle(4, 16, 0);
        x.open(0, 8, 7);
        x.write(1, 0);
        due("SYN and ACK", x.pass(16), 2);
        due("ACK came in time, no ring: 16 + 32", x.timeout(0), 48);
        due("open", x.state(0), 2);
        due("measured", x.smooth(0), 128);
        due("SYN and DATA", x.sent(0), 2);

        SubflowBundle y = opened(4, 16, 1);
        openMore(y, 1, 1);
        y.delay(0, 0);
        y.write(1, 0);
        y.pass(1);
        due("on path 0", y.unacked(0), 1);
        y.pass(5);
        due("before the ring", y.unacked(1), 0);
        y.pass(1);
        due("stale", y.state(0), 3);
        due("sent anew in the same tick", y.unacked(1), 1);
    }

    private static void windowAndProbe() {
        SubflowBundle x = opened(3, 4, 1);
        x.write(10, 0);
        x.pass(1);
        due("up to EDGE", x.unacked(0), 4);
        due("three and one", x.flight(0, false), 2);
        x.pass(2);
        due("a probe beyond EDGE", x.unacked(0), 1);
        due("it bears unit 4", x.word(0, false, 0, 2), 4);
        due("answered, not taken", x.pass(2), 2);
        due("received", x.received(), 4);
        due("no second probe", x.unacked(0), 1);
        x.read();
        // Sent at tick 5 with the timeout 6, the probe is sent again at tick 11.
        x.pass(3);
        due("not yet again", x.sent(0), 4);
        x.pass(1);
        due("again", x.sent(0), 5);
        x.pass(1);
        due("taken", x.received(), 5);
        due("limit", x.word(0, true, 0, 3), 5);
    }

    private static void probeRules() {
        SubflowBundle x = opened(4, 4, 2);
        openMore(x, 1, 3);
        x.write(6, 0);
        x.pass(1);
        due("path 0 has all below EDGE", x.unacked(0), 4);
        due("no probe while units are under way", x.unacked(1), 0);

        SubflowBundle y = opened(4, 4, 2);
        y.open(1, 3, y.token());
        y.twice(1, false, 0, 11);
        y.pass(6);
        y.write(5, 0);
        y.pass(3);
        y.lose(0, true, 0);
        // The late SYN is answered at tick 18 with what path 0 brought.
        y.pass(5);
        due("known by path 1", y.acknowledged(), 4);
        due("path 0 waits for its own ACK", y.unacked(0), 4);
        due("so path 1 gets the probe", y.unacked(1), 1);
    }

    /** An old ACK does not take EDGE back. */
    private static void edgeStays() {
        SubflowBundle x = opened(4, 4, 2);
        x.write(4, 0);
        x.pass(3);
        x.twice(0, true, 0, 20);
        x.pass(2);
        for (int i = 0; i < 4; i++) {
            due("byte", x.read(), i);
        }
        x.write(1, 0);
        x.pass(5);
        due("the probe opened the window", x.acknowledged(), 5);
        due("the old ACK", x.pass(13), 1);
        x.write(4, 0);
        x.pass(1);
        due("up to EDGE 8", x.unacked(0), 3);
    }

    /** A segment ends before a unit that is not loose. */
    private static void brokenRun() {
        SubflowBundle x = opened(4, 16, 4);
        openMore(x, 1, 5);
        for (int i = 0; i < 4; i++) {
            x.write(2, 2 * i);
            x.pass(1);
        }
        due("three on path 0", x.unacked(0), 6);
        due("the fourth on path 1", x.unacked(1), 2);
        x.close(0);
        x.pass(1);
        due("two more segments", x.flight(1, false), 3);
        due("of 4 and 2 units", x.unacked(1), 8);
        due("counted", x.reinjected(), 6);
    }

    private static void choiceOfPath() {
        SubflowBundle x = opened(2, 56, 5);
        openMore(x, 1, 2);
        openMore(x, 3, 2);
        x.open(2, 1, x.token());
        x.lose(2, false, 0);
        x.pass(18);
        due("open", x.state(2), 2);
        due("without a measure", x.smooth(2), NONE);
        x.write(13, 0);
        x.pass(1);
        due("least S, lower number: first", x.word(1, false, 0, 2), 0);
        due("three there", x.flight(1, false), 3);
        due("then path 3", x.word(3, false, 0, 2), 6);
        due("three there", x.flight(3, false), 3);
        due("then path 0", x.word(0, false, 0, 2), 12);
        due("the rest", x.unacked(0), 1);
        due("no measure: last", x.unacked(2), 0);
        x.write(56, 0);
        x.pass(1);
        due("numbers", x.unacked(2), 6);
    }

    private static void staleOnes() {
        SubflowBundle x = opened(4, 16, 1);
        openMore(x, 1, 2);
        x.delay(0, 0);
        x.delay(1, 0);
        x.write(2, 0);
        x.pass(1);
        x.pass(6);
        due("path 0 is stale", x.state(0), 3);
        due("path 1 has the units", x.unacked(1), 2);
        x.write(2, 0);
        x.pass(1);
        due("not on the stale one", x.unacked(0), 2);
        due("on the open one", x.unacked(1), 4);
        x.pass(11);
        due("path 1 is stale", x.state(1), 3);
        due("now the units of stale paths are loose for others", x.unacked(0), 4);
        due("counted", x.reinjected(), 4);
        x.delay(0, 1);
        x.pass(60);
        due("open again", x.state(0), 2);
        due("the other stays stale", x.state(1), 3);
        // Sent again at tick 49, the first is acknowledged at 51; the second waits 48 ticks more.
        due("received", x.received(), 2);
        x.pass(60);
        due("received", x.received(), 4);
    }

    private static void delay() {
        promise = 8;
        SubflowBundle x = new SubflowBundle(4, 16, 0);
        for (int p : NO_PATH) {
            no("no path", x.delay(p, 3));
        }
        no("new", x.delay(0, 3));
        x.open(0, 3, 7);
        no("-1", x.delay(0, -1));
        no("41", x.delay(0, 41));
        yes("40", x.delay(0, 40));
        due("copies keep their time", x.pass(3), 1);
        due("not yet", x.pass(39), 0);
        due("forty later", x.pass(1), 1);
        yes("0", x.delay(0, 0));
        x.write(1, 0);
        x.pass(1);
        due("lost, the SYN sent again at tick 16 is alone", x.flight(0, false), 1);
        due("but sent", x.sent(0), 3);
        yes("1", x.delay(0, 1));
        x.close(0);
        no("closed", x.delay(0, 3));

        SubflowBundle y = new SubflowBundle(4, 16, 0);
        y.open(0, 3, 7);
        y.delay(0, 0);
        due("SYN arrives", y.pass(3), 1);
        due("its ACK is lost", y.flight(0, true), 0);
    }

    private static void lose() {
        promise = 9;
        SubflowBundle x = opened(1, 16, 2);
        x.write(3, 0);
        x.pass(1);
        for (int p : NO_PATH) {
            no("no path", x.lose(p, false, 0));
        }
        no("-1", x.lose(0, false, -1));
        no("no such copy", x.lose(0, false, 3));
        no("other pipe", x.lose(0, true, 0));
        no("new path", x.lose(1, false, 0));
        yes("the middle one", x.lose(0, false, 1));
        due("two left", x.flight(0, false), 2);
        due("the oldest", x.word(0, false, 0, 2), 0);
        due("the newest", x.word(0, false, 1, 2), 2);
        due("arrivals", x.pass(2), 2);
        due("received", x.received(), 1);
        due("ACKs", x.flight(0, true), 2);
        yes("an ACK", x.lose(0, true, 1));
        no("gone", x.lose(0, true, 1));
        due("one arrives", x.pass(2), 1);

        SubflowBundle y = opened(1, 16, 2);
        y.write(3, 0);
        y.pass(1);
        yes("the oldest", y.lose(0, false, 0));
        due("then the second", y.word(0, false, 0, 2), 1);
        due("then the third", y.word(0, false, 1, 2), 2);
    }

    private static void twice() {
        promise = 10;
        SubflowBundle x = opened(1, 16, 2);
        x.write(2, 0);
        x.pass(1);
        for (int p : NO_PATH) {
            no("no path", x.twice(p, false, 0, 3));
        }
        no("-1", x.twice(0, false, -1, 3));
        no("no such copy", x.twice(0, false, 2, 3));
        no("other pipe", x.twice(0, true, 0, 3));
        no("late 0", x.twice(0, false, 0, 0));
        no("late 41", x.twice(0, false, 0, 41));
        due("nothing changed", x.flight(0, false), 2);
        x.delay(0, 0);
        yes("late 1, delay 0", x.twice(0, false, 0, 1));
        due("newest", x.word(0, false, 2, 2), 0);
        for (int i = 0; i < 4; i++) {
            due("same word", x.word(0, false, 2, i), x.word(0, false, 0, i));
        }
        yes("late 40", x.twice(0, false, 1, 40));
        yes("fifth", x.twice(0, false, 3, 39));
        yes("sixth", x.twice(0, false, 3, 39));
        no("full", x.twice(0, false, 0, 3));
        due("not sent", x.sent(0), 3);
        due("the newest first", x.pass(1), 1);
        due("taken", x.received(), 1);
        due("both", x.pass(1), 2);
        due("taken", x.received(), 2);
        due("three left", x.flight(0, false), 3);
        fullPipes();
    }

    private static void fullPipes() {
        SubflowBundle x = new SubflowBundle(4, 16, 0);
        x.open(0, 5, 7);
        for (int i = 0; i < 5; i++) {
            yes("copy", x.twice(0, false, 0, 40));
        }
        x.lose(0, false, 0);
        x.twice(0, false, 0, 40);
        x.pass(16);
        due("sent again", x.sent(0), 2);
        due("lost at once", x.flight(0, false), 6);
        due("all arrive", x.pass(24), 6);
        due("six ACKs", x.flight(0, true), 6);
        x.twice(0, true, 0, 3);
        due("no seventh", x.flight(0, true), 6);
        x.pass(5);
        due("open", x.state(0), 2);
        fullBackPipe();
    }

    /** The back pipe's due copies leave only after B has answered what came forward. */
    private static void fullBackPipe() {
        SubflowBundle x = new SubflowBundle(4, 16, 0);
        x.open(0, 1, 7);
        x.twice(0, false, 0, 2);
        x.pass(1);
        for (int i = 0; i < 5; i++) {
            yes("copy", x.twice(0, true, 0, 1));
        }
        due("a SYN and six ACKs", x.pass(1), 7);
        due("its answer was lost", x.flight(0, true), 0);
    }

    private static void flight() {
        promise = 11;
        SubflowBundle x = opened(1, 16, 2);
        for (int p : NO_PATH) {
            due("no path", x.flight(p, false), NONE);
            due("no path", x.flight(p, true), NONE);
        }
        x.write(3, 0);
        x.pass(1);
        due("forward", x.flight(0, false), 3);
        due("back", x.flight(0, true), 0);
        x.pass(2);
        due("forward", x.flight(0, false), 0);
        due("back", x.flight(0, true), 3);
        due("new", x.flight(3, false), 0);
    }

    private static void words(SubflowBundle x, int p, boolean back, int... want) {
        for (int i = 0; i < 4; i++) {
            due("word " + i, x.word(p, back, 0, i), want[i]);
        }
    }

    private static void word() {
        promise = 12;
        SubflowBundle x = new SubflowBundle(4, 16, 0);
        x.open(1, 1, 0xFFFF0001);
        // 0x1000 + 0xFFFF + 1 = 0x11000, folded 0x1001.
        words(x, 1, false, 0x1000EFFE, 0, 0xFFFF0001, 0);
        x.pass(1);
        // 0x9000 + 1 + 16.
        words(x, 1, true, 0x90006FEE, 1, 0, 16);
        x.pass(1);
        x.open(3, 1, 9);
        x.pass(1);
        words(x, 3, true, 0xF0000FFF, 0, 0, 0);
        x.write(2, 65);
        x.finish();
        x.pass(1);
        // 0x5003 + 1 + 0 + 1 + 65 + 66 + 256.
        words(x, 1, false, 0x5003FFFF - 0x5003 - 389, 1, 0, 1);
        for (int p : NO_PATH) {
            due("no path", x.word(p, false, 0, 0), 0);
        }
        due("path without copies", x.word(0, false, 0, 0), 0);
        due("no such copy", x.word(1, false, 1, 0), 0);
        due("no such copy", x.word(1, false, -1, 0), 0);
        due("no such word", x.word(1, false, 0, 4), 0);
        due("no such word", x.word(1, false, 0, -1), 0);
        due("other pipe", x.word(1, true, 0, 0), 0);
        folds();
    }

    private static void folds() {
        SubflowBundle x = new SubflowBundle(4, 16, 0);
        x.open(0, 1, -1);
        words(x, 0, false, 0, 0, -1, 0);
        SubflowBundle y = new SubflowBundle(4, 16, 0);
        y.open(0, 1, 65535);
        words(y, 0, false, 0, 0, 65535, 0);
        SubflowBundle z = new SubflowBundle(4, 16, 0);
        z.open(0, 1, 0x00010000 + 65535);
        words(z, 0, false, 65534, 0, 0x1FFFF, 0);
        SubflowBundle again = new SubflowBundle(4, 16, 0);
        again.open(1, 1, 0xFFFFF000);
        // 0x1000 + 0xFFFF + 0xF000 = 0x1FFFF, folded 0x10000, folded 1.
        words(again, 1, false, 0x1000FFFE, 0, 0xFFFFF000, 0);
        SubflowBundle first = opened(4, 16, 1);
        openMore(first, 3, 2);
        first.write(9, 250);
        first.pass(1);
        // Path 0 gets 4, 4 and 1 units; the second segment bears 254, 255, 0, 1: 0x4004 + 5 + 4 + 510.
        due("second segment", first.word(0, false, 1, 0), 0x4004FFFF - 0x4004 - 519);
        due("its first number", first.word(0, false, 1, 1), 5);
        due("its first unit", first.word(0, false, 1, 2), 4);
        due("no END", first.word(0, false, 1, 3), 0);
    }

    private static void state() {
        promise = 13;
        SubflowBundle x = new SubflowBundle(4, 16, 0);
        for (int p : NO_PATH) {
            due("no path", x.state(p), NONE);
        }
        due("new", x.state(0), 0);
        x.open(0, 2, 7);
        due("opening", x.state(0), 1);
        x.pass(3);
        due("opening", x.state(0), 1);
        x.pass(1);
        due("open", x.state(0), 2);
        x.delay(0, 0);
        x.write(1, 0);
        x.pass(12);
        due("open before the ring", x.state(0), 2);
        x.pass(1);
        due("stale", x.state(0), 3);
        x.delay(0, 1);
        x.pass(60);
        due("open again", x.state(0), 2);
        x.close(0);
        due("closed", x.state(0), 4);
        SubflowBundle y = new SubflowBundle(4, 16, 0);
        y.open(0, 2, 7);
        y.delay(0, 0);
        y.pass(60);
        due("a ring leaves OPENING", y.state(0), 1);
        uselessAck();
    }

    /** An ACK that acknowledges no segment changes neither state nor timer. */
    private static void uselessAck() {
        SubflowBundle x = opened(4, 16, 2);
        x.write(1, 0);
        x.pass(1);
        x.lose(0, false, 0);
        x.write(1, 0);
        x.pass(3);
        due("ACK of the second alone", x.flight(0, true), 1);
        x.twice(0, true, 0, 12);
        // Sent at tick 5, the timeout 12: the ring at tick 17 is not moved by the ACK at tick 10.
        x.pass(8);
        due("open", x.state(0), 2);
        x.pass(1);
        due("stale", x.state(0), 3);
        due("timeout", x.timeout(0), 24);
        x.lose(0, false, 0);
        x.pass(3);
        due("still stale", x.state(0), 3);
    }

    private static void smooth() {
        promise = 14;
        SubflowBundle x = new SubflowBundle(4, 16, 0);
        for (int p : NO_PATH) {
            due("no path", x.smooth(p), NONE);
        }
        x.open(0, 3, 7);
        due("none yet", x.smooth(0), NONE);
        x.pass(6);
        due("8 * 6", x.smooth(0), 48);
        x.delay(0, 5);
        x.write(1, 0);
        x.pass(11);
        due("48 - 6 + 10", x.smooth(0), 52);
        due("6 + 12 - 3 + 4", x.timeout(0), 19);
        x.delay(0, 1);
        x.write(1, 0);
        x.pass(3);
        due("52 - 6 + 2", x.smooth(0), 48);
        due("6 + 13 - 3 + 4", x.timeout(0), 20);
        x.close(0);
        due("closed", x.smooth(0), 48);
        againNotMeasured();
        lastOneMeasured();
    }

    private static void againNotMeasured() {
        SubflowBundle x = new SubflowBundle(4, 16, 0);
        x.open(0, 9, 7);
        x.pass(18);
        due("SYN was sent twice", x.sent(0), 2);
        due("open", x.state(0), 2);
        due("no measure", x.smooth(0), NONE);
        due("the timeout stays doubled", x.timeout(0), 32);
        x.write(1, 0);
        x.pass(19);
        due("now there is one", x.smooth(0), 144);
        due("18 + 36", x.timeout(0), 54);
    }

    private static void lastOneMeasured() {
        SubflowBundle x = opened(1, 16, 2);
        x.write(2, 0);
        x.pass(1);
        x.lose(0, false, 0);
        // The first is sent again at tick 17 and acknowledged at 21 with the second, sent once at 5.
        x.pass(16);
        due("both acknowledged", x.unacked(0), 0);
        due("32 - 4 + 16", x.smooth(0), 44);
        due("5 + 8 - 2 + 12", x.timeout(0), 23);
        SubflowBundle y = opened(1, 16, 2);
        y.write(2, 0);
        y.pass(1);
        y.twice(0, false, 1, 30);
        y.pass(4);
        due("a copy is no sending", y.smooth(0), 32);
        due("4 + 8 - 2, then 4 + 6 - 1", y.timeout(0), 9);
    }

    private static void timeout() {
        promise = 15;
        SubflowBundle x = new SubflowBundle(4, 16, 0);
        for (int p : NO_PATH) {
            due("no path", x.timeout(p), NONE);
        }
        due("at first", x.timeout(0), 16);
        x.open(0, 3, 7);
        x.delay(0, 0);
        x.lose(0, false, 0);
        int[][] rings = {{16, 32}, {32, 64}, {64, 120}, {120, 120}, {120, 120}};
        int before = 16;
        for (int i = 0; i < rings.length; i++) {
            for (int t = 1; t < rings[i][0]; t++) {
                x.pass(1);
            }
            due("before ring " + i, x.timeout(0), before);
            due("before ring " + i, x.sent(0), i + 1);
            x.pass(1);
            due("after ring " + i, x.timeout(0), rings[i][1]);
            due("after ring " + i, x.sent(0), i + 2);
            before = rings[i][1];
        }
        x.close(0);
        due("closed", x.timeout(0), 120);
        leastAndMost();
        setAgain();
    }

    private static void leastAndMost() {
        SubflowBundle x = opened(4, 16, 1);
        due("2 + 4", x.timeout(0), 6);
        x.write(1, 0);
        x.pass(3);
        due("2 + 3 is less than 6", x.timeout(0), 6);

        SubflowBundle y = new SubflowBundle(4, 16, 0);
        y.open(0, 40, 7);
        y.pass(40);
        y.pass(40);
        due("open, SYN sent again at 16 and 48", y.timeout(0), 64);
        y.write(1, 0);
        for (int i = 0; i < 4; i++) {
            y.pass(60);
        }
        due("doubled once more, no measure", y.timeout(0), 120);
        due("no measure", y.smooth(0), NONE);
        y.write(1, 0);
        y.pass(60);
        y.pass(21);
        due("8 * 80", y.smooth(0), 640);
        due("80 + 160 is more than 120", y.timeout(0), 120);
    }

    /** The timer is set anew when a segment is acknowledged while others are not. */
    private static void setAgain() {
        SubflowBundle x = opened(1, 16, 2);
        x.write(2, 0);
        x.pass(1);
        x.lose(0, false, 1);
        x.pass(4);
        due("one acknowledged at tick 9", x.unacked(0), 1);
        due("4 + 8 - 2", x.timeout(0), 10);
        x.pass(9);
        due("sent", x.sent(0), 3);
        x.pass(1);
        due("the ring at tick 19", x.sent(0), 4);
        x.write(1, 0);
        x.pass(1);
        due("a new one does not set it", x.unacked(0), 2);
        x.lose(0, false, 1);
        x.lose(0, false, 0);
        x.pass(18);
        due("sent", x.sent(0), 5);
        x.pass(1);
        due("the ring at tick 39", x.sent(0), 6);
    }

    private static void unacked() {
        promise = 16;
        SubflowBundle x = new SubflowBundle(5, 16, 0);
        for (int p : NO_PATH) {
            due("no path", x.unacked(p), NONE);
        }
        due("new", x.unacked(0), 0);
        x.open(0, 2, 7);
        due("SYN", x.unacked(0), 1);
        x.pass(4);
        due("none", x.unacked(0), 0);
        x.write(12, 0);
        x.pass(1);
        due("twelve", x.unacked(0), 12);
        x.lose(0, false, 1);
        x.pass(4);
        due("the first five are acknowledged", x.unacked(0), 7);
        x.close(0);
        due("closed", x.unacked(0), 0);
    }

    private static void acknowledged() {
        promise = 17;
        SubflowBundle x = opened(2, 16, 2);
        openMore(x, 1, 4);
        x.write(8, 0);
        x.pass(1);
        due("on path 0", x.unacked(0), 6);
        due("on path 1", x.unacked(1), 2);
        x.lose(0, false, 0);
        x.pass(8);
        due("a gap", x.acknowledged(), 0);
        due("but path 1's is acknowledged", x.unacked(1), 0);
        // Path 0 rings at tick 25; what it sends again then is answered at 29.
        x.pass(7);
        due("still the gap", x.acknowledged(), 0);
        x.pass(1);
        due("all at once", x.acknowledged(), 8);
        SubflowBundle y = opened(2, 16, 2);
        y.write(2, 0);
        y.pass(3);
        due("B has it", y.received(), 2);
        due("A does not know", y.acknowledged(), 0);
        y.twice(0, true, 0, 9);
        y.pass(2);
        due("now it does", y.acknowledged(), 2);
        y.write(2, 0);
        y.pass(5);
        due("and more", y.acknowledged(), 4);
        y.pass(2);
        due("an old ACK takes nothing back", y.acknowledged(), 4);
        acknowledgedElsewhere();
    }

    /** A unit that was acknowledged on some path is not loose, even beyond a gap. */
    private static void acknowledgedElsewhere() {
        SubflowBundle x = opened(2, 16, 4);
        openMore(x, 1, 1);
        x.write(8, 0);
        x.pass(1);
        due("path 1 first", x.unacked(1), 6);
        due("then path 0", x.unacked(0), 2);
        for (int i = 0; i < 3; i++) {
            x.lose(1, false, 0);
        }
        x.delay(1, 0);
        x.pass(8);
        due("ACKNOWLEDGED is behind", x.acknowledged(), 0);
        x.close(1);
        x.pass(8);
        due("six sent anew, not the last two", x.reinjected(), 6);
        due("received", x.received(), 8);
    }

    private static void received() {
        promise = 18;
        SubflowBundle x = opened(1, 16, 2);
        due("none", x.received(), 0);
        x.write(3, 0);
        x.pass(1);
        x.lose(0, false, 1);
        x.pass(2);
        due("the third does not count yet", x.received(), 1);
        x.pass(60);
        due("all", x.received(), 3);
        x.read();
        due("reading changes nothing", x.received(), 3);
        x.finish();
        x.pass(5);
        due("the END counts", x.received(), 4);
        lastUnitDecides();
    }

    private static void lastUnitDecides() {
        SubflowBundle x = opened(1, 4, 1);
        x.write(6, 0);
        x.pass(3);
        x.pass(2);
        due("four fit", x.received(), 4);
        x.pass(1);
        due("the fifth does not", x.received(), 4);
        x.read();
        x.pass(60);
        due("now it does", x.received(), 5);
    }

    private static void sent() {
        promise = 19;
        SubflowBundle x = new SubflowBundle(1, 16, 0);
        for (int p : NO_PATH) {
            due("no path", x.sent(p), NONE);
        }
        due("none", x.sent(0), 0);
        x.open(0, 1, 7);
        due("SYN", x.sent(0), 1);
        x.twice(0, false, 0, 5);
        due("a copy", x.sent(0), 1);
        x.pass(2);
        x.delay(0, 0);
        x.write(2, 0);
        x.pass(1);
        due("lost at once", x.sent(0), 3);
        x.pass(6);
        due("again", x.sent(0), 4);
        x.close(0);
        x.pass(60);
        due("closed", x.sent(0), 4);
        due("other path", x.sent(1), 0);
    }

    private static void reinjected() {
        promise = 20;
        SubflowBundle x = opened(4, 16, 1);
        openMore(x, 1, 1);
        openMore(x, 2, 1);
        x.delay(0, 0);
        x.delay(1, 0);
        x.delay(2, 0);
        x.write(3, 0);
        x.pass(1);
        due("first time", x.reinjected(), 0);
        x.pass(6);
        due("stale: on path 1", x.reinjected(), 3);
        x.pass(6);
        due("on path 2", x.reinjected(), 6);
        due("sent again on path 0", x.sent(0), 3);
        x.pass(60);
        due("sending again is not counted", x.reinjected(), 6);
        x.write(1, 0);
        x.pass(1);
        due("all stale: the new unit on each", x.reinjected(), 8);
        x.close(0);
        x.pass(20);
        due("nothing loose for the others", x.reinjected(), 8);
    }

    private static void token() {
        promise = 21;
        SubflowBundle x = new SubflowBundle(4, 16, 0);
        due("token", x.token(), 1234563);
        x.open(0, 1, 7);
        x.write(9, 0);
        x.pass(20);
        due("always the same", x.token(), 1234563);
        x.open(1, 1, 1234563);
        x.open(2, 1, 1234562);
        x.pass(2);
        due("opens", x.state(1), 2);
        due("does not", x.state(2), 4);
    }
}
