/**
 * The boundary cases of the document's sections 'Promise 1' to 'Promise 21': each sentence that
 * names one has a method of its own, with the last case inside it and the first one outside. That
 * a refused call changes nothing is asked in RefusedTest.
 */
public final class CallsTest {
    private static final int NONE = -1;
    private static final int OVER = -2;
    private static final int MIN = Integer.MIN_VALUE;
    private static final int MAX = Integer.MAX_VALUE;
    private static final int[] NO_PATH = {-1, 4, MIN, MAX};
    private static final int TOKEN = 1234563;
    private static final int FOREIGN = 7;
    private static final int NEW = 0;
    private static final int OPENING = 1;
    private static final int OPEN = 2;
    private static final int STALE = 3;
    private static final int CLOSED = 4;
    private static String sentence = "";
    private static int wrong = 0;

    public static void main(String[] args) {
        constants();
        lastOf512Calls();
        newObject();
        opens();
        closes();
        writes();
        finishes();
        reads();
        passes();
        delays();
        loses();
        twices();
        flights();
        words();
        statesAndMeasures();
        unackeds();
        acknowledgedAndReceived();
        sents();
        reinjecteds();
        tokens();
        System.out.println(wrong == 0 ? "the calls hold" : wrong + " answers are not as due");
        if (wrong != 0) {
            System.exit(1);
        }
    }

    private static void says(String text) {
        sentence = text;
    }

    private static void due(String what, int got, int want) {
        if (got != want) {
            wrong++;
            System.out.println("'" + sentence + "': " + what + " answered " + got + ", due is " + want);
        }
    }

    private static void yes(String what, boolean got) {
        due(what, got ? 1 : 0, 1);
    }

    private static void no(String what, boolean got) {
        due(what, got ? 1 : 0, 0);
    }

    private static SubflowBundle made() {
        return new SubflowBundle(4, 16, 0);
    }

    /** An object whose path p has just become OPEN, after 2 * delay ticks. */
    private static SubflowBundle openedOn(int p, int mss, int buffer, int delay) {
        SubflowBundle x = new SubflowBundle(mss, buffer, 0);
        x.open(p, delay, FOREIGN);
        x.pass(2 * delay);
        due("open", x.state(p), OPEN);
        return x;
    }

    private static SubflowBundle opened(int mss, int buffer, int delay) {
        return openedOn(0, mss, buffer, delay);
    }

    private static SubflowBundle stale() {
        SubflowBundle x = opened(4, 16, 1);
        x.delay(0, 0);
        x.write(1, 0);
        x.pass(7);
        due("stale", x.state(0), STALE);
        return x;
    }

    private static SubflowBundle closed() {
        SubflowBundle x = opened(4, 16, 1);
        x.close(0);
        return x;
    }

    private static void openMore(SubflowBundle x, int p, int delay) {
        x.open(p, delay, TOKEN);
        x.pass(2 * delay);
    }

    private static void constants() {
        says("The constants");
        due("NONE", SubflowBundle.NONE, -1);
        due("OVER", SubflowBundle.OVER, -2);
    }

    private static void lastOf512Calls() {
        says("An object is used for at most 512 calls after it has been made");
        SubflowBundle x = opened(1, 56, 1);
        x.write(2, 8);
        for (int call = 5; call <= 508; call++) {
            x.pass(60);
        }
        due("call 509", x.read(), 8);
        due("call 510", x.received(), 2);
        due("call 511", x.pass(60), 0);
        due("call 512", x.read(), 9);
    }

    // Promise 1.

    private static void newObject() {
        mssIsOneToSeven();
        bufferIsFourTo56();
        allPathsAreNew();
    }

    private static void mssIsOneToSeven() {
        says("MSS is mss, but 1 if that is less and 7 if that is more");
        int[][] rows = {{MIN, 1}, {-1, 1}, {0, 1}, {1, 1}, {2, 2}, {6, 6}, {7, 7}, {8, 7}, {MAX, 7}};
        for (int[] row : rows) {
            SubflowBundle x = opened(row[0], 56, 1);
            x.write(56, 0);
            x.pass(1);
            due("three segments with " + row[0], x.flight(0, false), 3);
            due("numbers with " + row[0], x.unacked(0), 3 * row[1]);
        }
    }

    private static void bufferIsFourTo56() {
        says("BUFFER is buffer, but 4 if that is less and 56 if that is more");
        int[][] rows = {{MIN, 4}, {-1, 4}, {0, 4}, {3, 4}, {4, 4}, {5, 5}, {55, 55}, {56, 56}, {57, 56}, {MAX, 56}};
        for (int[] row : rows) {
            SubflowBundle x = new SubflowBundle(7, row[0], 0);
            x.open(0, 1, FOREIGN);
            x.write(400, 0);
            x.pass(1);
            due("LIMIT with " + row[0], x.word(0, true, 0, 3), row[1]);
            x.pass(60);
            due("units taken with " + row[0], x.received(), row[1]);
        }
    }

    private static void allPathsAreNew() {
        says("All paths are NEW with the delay 0, all pipes and the stream are empty");
        SubflowBundle x = made();
        for (int p = 0; p < 4; p++) {
            due("state", x.state(p), NEW);
            due("forward", x.flight(p, false), 0);
            due("back", x.flight(p, true), 0);
            due("unacked", x.unacked(p), 0);
            due("sent", x.sent(p), 0);
            due("smooth", x.smooth(p), NONE);
            due("timeout", x.timeout(p), 16);
        }
        due("nothing arrives", x.pass(60), 0);
        due("nothing to read", x.read(), NONE);
        due("received", x.received(), 0);
        due("acknowledged", x.acknowledged(), 0);
        due("reinjected", x.reinjected(), 0);
        x.open(0, 1, FOREIGN);
        x.pass(60);
        due("no unit to send", x.sent(0), 1);
        due("400 bytes fit", x.write(400, 0), 400);
    }

    // Promise 2.

    private static void opens() {
        openBecomesOpening();
        openOfNoPath();
        openWhatIsNotNew();
        openWithDelay();
        openWhileAnotherIsOpening();
    }

    private static void openBecomesOpening() {
        says("A NEW path p becomes OPENING with this delay, and A sends its SYN with this token at once");
        int[] tokens = {0, -1, MIN, MAX};
        for (int token : tokens) {
            SubflowBundle x = made();
            yes("open", x.open(2, 3, token));
            due("opening", x.state(2), OPENING);
            due("one copy", x.flight(2, false), 1);
            due("its token", x.word(2, false, 0, 2), token);
            due("sent", x.sent(2), 1);
            due("unacked", x.unacked(2), 1);
            due("not before its delay", x.pass(2), 0);
            due("SYN", x.pass(1), 1);
        }
    }

    private static void openOfNoPath() {
        says("false when p is not 0 .. 3");
        for (int p : NO_PATH) {
            no("open of " + p, made().open(p, 3, FOREIGN));
        }
        for (int p = 0; p < 4; p++) {
            yes("open of " + p, made().open(p, 3, FOREIGN));
        }
    }

    private static void openWhatIsNotNew() {
        says("false when the path is not NEW");
        SubflowBundle x = made();
        yes("new", x.open(0, 3, FOREIGN));
        no("opening", x.open(0, 3, FOREIGN));
        no("open", opened(4, 16, 1).open(0, 3, TOKEN));
        no("stale", stale().open(0, 3, TOKEN));
        no("closed", closed().open(0, 3, TOKEN));
        SubflowBundle y = opened(4, 16, 1);
        yes("while one is open", y.open(1, 3, TOKEN));
        no("opening, though one is open", y.open(1, 3, TOKEN));
    }

    private static void openWithDelay() {
        says("false when delay is not 1 .. 40");
        int[] refused = {0, -1, 41, MIN, MAX};
        for (int delay : refused) {
            SubflowBundle x = made();
            no("delay " + delay, x.open(0, delay, FOREIGN));
            due("new", x.state(0), NEW);
            due("nothing sent", x.flight(0, false), 0);
        }
        int[] taken = {1, 2, 39, 40};
        for (int delay : taken) {
            SubflowBundle x = made();
            yes("delay " + delay, x.open(0, delay, FOREIGN));
            due("not before", x.pass(delay - 1), 0);
            due("then", x.pass(1), 1);
        }
    }

    private static void openWhileAnotherIsOpening() {
        says("false when no path ever became OPEN and another one is OPENING");
        SubflowBundle x = made();
        x.open(0, 3, FOREIGN);
        no("another is opening", x.open(1, 3, TOKEN));
        x.pass(5);
        no("at tick 5 still", x.open(1, 3, TOKEN));
        x.pass(1);
        yes("open at tick 6", x.open(1, 3, TOKEN));
        yes("another is opening, but one was open", x.open(2, 3, TOKEN));

        SubflowBundle y = made();
        y.open(0, 3, FOREIGN);
        y.close(0);
        yes("none is opening, none was open", y.open(1, 3, FOREIGN));
        no("again one is opening", y.open(2, 3, FOREIGN));

        SubflowBundle z = closed();
        yes("the one that was open is closed", z.open(1, 3, TOKEN));
        yes("one became OPEN once", z.open(2, 3, TOKEN));

        SubflowBundle s = stale();
        yes("the one that was open is stale", s.open(1, 3, TOKEN));
        yes("one became OPEN once", s.open(2, 3, TOKEN));
    }

    // Promise 3.

    private static void closes() {
        closeOfNoPath();
        closeByState();
        closeEmptiesPipes();
        closeStopsTimer();
        closeLeavesNoneUnacknowledged();
        closeIsForGood();
    }

    private static void closeOfNoPath() {
        says("false when p is not 0 .. 3");
        for (int p : NO_PATH) {
            no("close of " + p, opened(4, 16, 1).close(p));
        }
        for (int p = 0; p < 4; p++) {
            yes("close of " + p, openedOn(p, 4, 16, 1).close(p));
        }
    }

    private static void closeByState() {
        says("A path that is neither NEW nor CLOSED becomes CLOSED; false when the path is NEW or CLOSED");
        no("new", made().close(0));
        SubflowBundle opening = made();
        opening.open(0, 3, FOREIGN);
        SubflowBundle[] ones = {opening, opened(4, 16, 1), stale()};
        for (SubflowBundle x : ones) {
            yes("close", x.close(0));
            due("closed", x.state(0), CLOSED);
            no("again", x.close(0));
            due("closed", x.state(0), CLOSED);
        }
        SubflowBundle refused = opened(4, 16, 1);
        refused.open(1, 1, FOREIGN);
        refused.pass(2);
        due("closed by REFUSE", refused.state(1), CLOSED);
        no("again", refused.close(1));
    }

    private static void closeEmptiesPipes() {
        says("its pipes are emptied");
        SubflowBundle x = opened(1, 16, 2);
        x.write(3, 0);
        x.pass(1);
        x.pass(2);
        x.write(2, 0);
        x.twice(0, true, 0, 30);
        x.pass(2);
        due("forward", x.flight(0, false), 2);
        due("back", x.flight(0, true), 1);
        x.close(0);
        due("forward", x.flight(0, false), 0);
        due("back", x.flight(0, true), 0);
        due("nothing arrives", x.pass(60), 0);
        due("received", x.received(), 3);
    }

    private static void closeStopsTimer() {
        says("its timer is stopped");
        SubflowBundle x = stale();
        int sent = x.sent(0);
        x.close(0);
        x.pass(60);
        x.pass(60);
        due("no ring", x.sent(0), sent);
        due("timeout", x.timeout(0), 12);
    }

    private static void closeLeavesNoneUnacknowledged() {
        says("no segment of it is unacknowledged any more");
        SubflowBundle x = opened(4, 16, 1);
        openMore(x, 1, 2);
        x.write(2, 0);
        x.pass(1);
        due("on path 0", x.unacked(0), 2);
        x.close(0);
        due("none", x.unacked(0), 0);
        x.pass(1);
        due("its units are loose for path 1", x.unacked(1), 2);
        due("counted", x.reinjected(), 2);
    }

    private static void closeIsForGood() {
        says("becomes CLOSED for good");
        SubflowBundle x = opened(4, 16, 1);
        x.write(2, 0);
        x.close(0);
        no("open", x.open(0, 1, TOKEN));
        no("delay", x.delay(0, 1));
        x.pass(60);
        due("closed", x.state(0), CLOSED);
        due("nothing is sent on it", x.sent(0), 1);
    }

    // Promise 4.

    private static void writes() {
        lowestEightBits();
        asManyAsMake400();
        writeLessThanOne();
        writeAfterFinish();
    }

    private static void lowestEightBits() {
        says("Writes up to n bytes, v, v + 1, v + 2, .. (the lowest eight bits of each)");
        int[][] rows = {{0, 0, 1, 2}, {254, 254, 255, 0}, {255, 255, 0, 1}, {256, 0, 1, 2}, {-1, 255, 0, 1},
            {MAX, 255, 0, 1}, {MIN, 0, 1, 2}, {-257, 255, 0, 1}};
        for (int[] row : rows) {
            SubflowBundle x = opened(4, 16, 1);
            due("written", x.write(3, row[0]), 3);
            x.pass(3);
            for (int i = 1; i < 4; i++) {
                due("byte of " + row[0], x.read(), row[i]);
            }
            due("no more", x.read(), NONE);
        }
    }

    private static void asManyAsMake400() {
        says("as many as make 400 in all");
        int[][] rows = {{399, 399, 1}, {400, 400, 0}, {401, 400, 0}, {MAX, 400, 0}, {1, 1, 399}};
        for (int[] row : rows) {
            SubflowBundle x = made();
            due("first", x.write(row[0], 0), row[1]);
            due("what is left", x.write(1000, 0), row[2]);
            due("full", x.write(1, 0), 0);
            due("full", x.write(MAX, 0), 0);
        }
        SubflowBundle y = made();
        y.write(398, 0);
        due("as many as fit", y.write(3, 0), 2);
        SubflowBundle z = made();
        z.write(398, 0);
        due("just as many as fit", z.write(2, 0), 2);
    }

    private static void writeLessThanOne() {
        says("0, and nothing is written, when n is less than 1");
        int[] rows = {0, -1, -400, MIN};
        for (int n : rows) {
            SubflowBundle x = opened(4, 16, 1);
            due("n " + n, x.write(n, 5), 0);
            x.finish();
            x.pass(2);
            due("the END alone", x.received(), 1);
        }
        due("n 1", made().write(1, 5), 1);
    }

    private static void writeAfterFinish() {
        says("0, and nothing is written, when finish() has answered true");
        SubflowBundle x = opened(4, 16, 1);
        due("before", x.write(1, 5), 1);
        x.finish();
        due("after", x.write(1, 5), 0);
        due("after", x.write(MAX, 5), 0);
        x.finish();
        due("after the second finish", x.write(1, 5), 0);
        x.pass(2);
        due("a byte and the END", x.received(), 2);
    }

    // Promise 5.

    private static void finishes() {
        endBehindBytes();
        finishTwice();
    }

    private static void endBehindBytes() {
        says("Puts the END behind the bytes written");
        SubflowBundle x = opened(4, 16, 1);
        yes("with no byte", x.finish());
        x.pass(1);
        due("unit 0", x.word(0, false, 0, 2), 0);
        due("is the END", x.word(0, false, 0, 3), 1);
        x.pass(1);
        due("over", x.read(), OVER);

        SubflowBundle y = opened(7, 56, 1);
        y.write(400, 0);
        yes("with 400 bytes", y.finish());
        int bytes = 0;
        for (int round = 0; round < 60 && y.received() < 401; round++) {
            y.pass(6);
            for (int got = y.read(); got >= 0; got = y.read()) {
                due("byte", got, bytes & 255);
                bytes++;
            }
        }
        due("bytes", bytes, 400);
        due("units", y.received(), 401);
        due("over", y.read(), OVER);
    }

    private static void finishTwice() {
        says("True; false when that was done before");
        SubflowBundle x = opened(4, 16, 1);
        yes("first", x.finish());
        no("second", x.finish());
        no("third", x.finish());
        x.pass(60);
        due("one END", x.received(), 1);
        no("later", x.finish());
    }

    // Promise 6.

    private static void reads() {
        readNextByte();
        readWhatIsNotTaken();
        readTheEnd();
    }

    private static void readNextByte() {
        says("The next byte at B, which is read by that");
        SubflowBundle x = opened(4, 16, 1);
        x.write(3, 255);
        x.pass(2);
        due("first", x.read(), 255);
        due("second", x.read(), 0);
        due("third", x.read(), 1);
        due("no fourth", x.read(), NONE);
    }

    private static void readWhatIsNotTaken() {
        says("NONE when B has not taken the next unit");
        SubflowBundle x = opened(1, 16, 1);
        due("nothing written", x.read(), NONE);
        x.write(3, 40);
        due("nothing sent", x.read(), NONE);
        x.pass(1);
        x.lose(0, false, 1);
        due("nothing arrived", x.read(), NONE);
        x.pass(1);
        due("taken", x.read(), 40);
        due("not taken, but the one behind it is", x.read(), NONE);
        due("and still", x.read(), NONE);
        x.pass(60);
        due("taken by now", x.read(), 41);
        due("and the one behind it", x.read(), 42);
        due("no more", x.read(), NONE);
    }

    private static void readTheEnd() {
        says("OVER when the next unit is the END and B took it (it is not read, however often one asks)");
        SubflowBundle x = opened(1, 16, 1);
        x.write(1, 9);
        x.finish();
        due("not taken", x.read(), NONE);
        x.pass(1);
        x.lose(0, false, 1);
        x.pass(1);
        due("byte", x.read(), 9);
        due("the END is not taken yet", x.read(), NONE);
        x.pass(60);
        for (int i = 0; i < 9; i++) {
            due("over", x.read(), OVER);
        }
        SubflowBundle y = opened(1, 16, 1);
        y.write(1, 9);
        y.finish();
        y.pass(1);
        y.lose(0, false, 0);
        y.pass(1);
        due("the END is taken, the byte before it is not", y.read(), NONE);
    }

    // Promise 7.

    private static void passes() {
        passZeroTo60();
        passCountsArrivals();
        passOneAfterTheOther();
    }

    private static void passZeroTo60() {
        says("NONE, and no tick, when n is not 0 .. 60");
        int[] rows = {-1, 61, MIN, MAX};
        for (int n : rows) {
            SubflowBundle x = made();
            x.open(0, 1, FOREIGN);
            due("pass " + n, x.pass(n), NONE);
            due("no tick", x.flight(0, false), 1);
            due("so it arrives later", x.pass(1), 1);
        }
        SubflowBundle y = made();
        y.open(0, 1, FOREIGN);
        due("pass 0", y.pass(0), 0);
        due("no tick", y.flight(0, false), 1);

        // With its ACK lost, the SYN is sent again at the ticks 16, 48 and 112.
        SubflowBundle z = made();
        z.open(0, 1, FOREIGN);
        z.delay(0, 0);
        z.pass(51);
        due("the SYN came before", z.pass(60), 0);
        due("tick 111", z.sent(0), 3);
        z.pass(1);
        due("tick 112", z.sent(0), 4);
        SubflowBundle w = made();
        w.open(0, 1, FOREIGN);
        w.delay(0, 0);
        w.pass(52);
        w.pass(60);
        due("tick 112", w.sent(0), 4);
    }

    private static void passCountsArrivals() {
        says("How many copies arrived in them, at A and at B (taken or not)");
        SubflowBundle x = made();
        x.open(0, 1, FOREIGN);
        x.twice(0, false, 0, 1);
        x.twice(0, false, 0, 1);
        due("three SYNs, one of them taken", x.pass(1), 3);
        due("three ACKs, one of which acknowledges", x.pass(1), 3);
        due("no more", x.pass(60), 0);
        x.write(1, 0);
        due("sent in this tick", x.pass(1), 0);
        x.lose(0, false, 0);
        due("lost", x.pass(5), 0);
        due("sent again in this one", x.pass(1), 0);
        due("there and back", x.pass(2), 2);
    }

    private static void passOneAfterTheOther() {
        says("So many ticks, one after the other");
        SubflowBundle x = made();
        SubflowBundle y = made();
        x.open(0, 3, FOREIGN);
        y.open(0, 3, FOREIGN);
        x.write(100, 0);
        y.write(100, 0);
        int sum = 0;
        for (int i = 0; i < 60; i++) {
            sum += x.pass(1);
        }
        due("sixty at once", y.pass(60), sum);
        due("sent", y.sent(0), x.sent(0));
        due("received", y.received(), x.received());
        due("timeout", y.timeout(0), x.timeout(0));
    }

    // Promise 8.

    private static void delays() {
        delayOfNoPath();
        delayByState();
        delayZeroTo40();
    }

    private static void delayOfNoPath() {
        says("false when p is not 0 .. 3");
        for (int p : NO_PATH) {
            no("delay of " + p, opened(4, 16, 1).delay(p, 3));
        }
        for (int p = 0; p < 4; p++) {
            SubflowBundle x = made();
            x.open(p, 1, FOREIGN);
            yes("delay of " + p, x.delay(p, 3));
            due("SYN", x.pass(3), 1);
            due("ACK", x.pass(1), 1);
        }
    }

    private static void delayByState() {
        says("false when the path is NEW or CLOSED");
        no("new", made().delay(0, 3));
        SubflowBundle opening = made();
        opening.open(0, 3, FOREIGN);
        yes("opening", opening.delay(0, 3));
        yes("open", opened(4, 16, 1).delay(0, 3));
        yes("stale", stale().delay(0, 3));
        no("closed", closed().delay(0, 3));
    }

    private static void delayZeroTo40() {
        says("The DELAY of a path becomes d; 0 means that whatever is sent on it is lost; false when d is not 0 .. 40");
        int[] refused = {-1, 41, MIN, MAX};
        for (int d : refused) {
            SubflowBundle x = opened(4, 16, 2);
            no("delay " + d, x.delay(0, d));
            x.write(1, 0);
            x.pass(1);
            due("not before the old one", x.pass(1), 0);
            due("the old one stands", x.pass(1), 1);
        }
        int[] taken = {1, 39, 40};
        for (int d : taken) {
            SubflowBundle x = opened(4, 16, 2);
            yes("delay " + d, x.delay(0, d));
            x.write(1, 0);
            x.pass(1);
            due("not before", x.pass(d - 1), 0);
            due("then", x.pass(1), 1);
        }
        SubflowBundle y = opened(4, 16, 2);
        yes("delay 0", y.delay(0, 0));
        y.write(1, 0);
        y.pass(1);
        due("sent", y.sent(0), 2);
        due("lost", y.flight(0, false), 0);
        due("nothing arrives", y.pass(60), 0);
    }

    // Promise 9.

    /** Path 0 has three copies with the units 0, 1, 2 in its forward pipe, due in two ticks. */
    private static SubflowBundle threeUnderWay() {
        SubflowBundle x = opened(1, 16, 2);
        x.write(3, 0);
        x.pass(1);
        due("three", x.flight(0, false), 3);
        return x;
    }

    private static void loses() {
        loseCopy();
        loseBackCopy();
        loseOfNoPath();
        loseNoCopy();
    }

    private static void loseCopy() {
        says("Takes copy k (the oldest is 0) out of the back or the forward pipe of path p; it arrives nowhere");
        int[][] left = {{1, 2}, {0, 2}, {0, 1}};
        int[] received = {0, 1, 2};
        for (int k = 0; k < 3; k++) {
            SubflowBundle x = threeUnderWay();
            yes("lose", x.lose(0, false, k));
            due("two left", x.flight(0, false), 2);
            due("the older", x.word(0, false, 0, 2), left[k][0]);
            due("the newer", x.word(0, false, 1, 2), left[k][1]);
            due("two arrive", x.pass(2), 2);
            due("received", x.received(), received[k]);
        }
    }

    private static void loseBackCopy() {
        says("Takes copy k out of the back pipe");
        for (int k = 0; k < 3; k++) {
            SubflowBundle x = threeUnderWay();
            x.pass(2);
            due("three ACKs", x.flight(0, true), 3);
            yes("lose", x.lose(0, true, k));
            due("two left", x.flight(0, true), 2);
            due("the older", x.word(0, true, 0, 1), k == 0 ? 3 : 2);
            due("the newer", x.word(0, true, 1, 1), k == 2 ? 3 : 4);
            due("two arrive", x.pass(2), 2);
            due("known", x.acknowledged(), k == 2 ? 2 : 3);
        }
    }

    private static void loseOfNoPath() {
        says("false when there is no such path");
        for (int p : NO_PATH) {
            no("forward", threeUnderWay().lose(p, false, 0));
            no("back", threeUnderWay().lose(p, true, 0));
        }
        for (int p = 0; p < 4; p++) {
            SubflowBundle x = made();
            x.open(p, 1, FOREIGN);
            yes("lose on " + p, x.lose(p, false, 0));
            due("nothing arrives", x.pass(9), 0);
        }
    }

    private static void loseNoCopy() {
        says("false when there is no such copy");
        int[] none = {-1, 3, MIN, MAX};
        for (int k : none) {
            SubflowBundle x = threeUnderWay();
            no("copy " + k, x.lose(0, false, k));
            due("three left", x.flight(0, false), 3);
        }
        SubflowBundle y = threeUnderWay();
        no("back pipe is empty", y.lose(0, true, 0));
        no("new path", y.lose(1, false, 0));
        yes("last", y.lose(0, false, 2));
        yes("last", y.lose(0, false, 1));
        yes("last", y.lose(0, false, 0));
        no("empty", y.lose(0, false, 0));
        SubflowBundle z = threeUnderWay();
        z.close(0);
        no("closed path", z.lose(0, false, 0));
        SubflowBundle full = made();
        full.open(0, 1, FOREIGN);
        for (int i = 0; i < 5; i++) {
            full.twice(0, false, 0, 9);
        }
        no("no copy 6", full.lose(0, false, 6));
        yes("copy 5", full.lose(0, false, 5));
        no("no copy 5", full.lose(0, false, 5));
    }

    // Promise 10.

    private static void twices() {
        twiceIsTheNewest();
        twiceOfNoPath();
        twiceOfNoCopy();
        twiceLate();
        twiceIntoFullPipe();
        twiceWithoutDelay();
    }

    private static void twiceIsTheNewest() {
        says("Puts another copy of copy k into the same pipe, as the newest there, due at NOW + late");
        for (int k = 0; k < 3; k++) {
            SubflowBundle x = threeUnderWay();
            yes("twice", x.twice(0, false, k, 1));
            due("four", x.flight(0, false), 4);
            due("none in the other pipe", x.flight(0, true), 0);
            for (int i = 0; i < 4; i++) {
                due("word " + i, x.word(0, false, 3, i), x.word(0, false, k, i));
            }
            due("still the oldest", x.word(0, false, 0, 2), 0);
            due("it arrives before the others", x.pass(1), 1);
            due("received", x.received(), k == 0 ? 1 : 0);
            due("not sent", x.sent(0), 4);
        }
        SubflowBundle y = threeUnderWay();
        y.pass(2);
        yes("an ACK", y.twice(0, true, 2, 1));
        due("four", y.flight(0, true), 4);
        for (int i = 0; i < 4; i++) {
            due("word " + i, y.word(0, true, 3, i), y.word(0, true, 2, i));
        }
        due("it arrives before the others", y.pass(1), 1);
        due("known", y.acknowledged(), 3);
    }

    private static void twiceOfNoPath() {
        says("false when there is no such path");
        for (int p : NO_PATH) {
            no("forward", threeUnderWay().twice(p, false, 0, 3));
            no("back", threeUnderWay().twice(p, true, 0, 3));
        }
        for (int p = 0; p < 4; p++) {
            SubflowBundle x = made();
            x.open(p, 1, FOREIGN);
            yes("twice on " + p, x.twice(p, false, 0, 1));
            due("both arrive", x.pass(1), 2);
        }
    }

    private static void twiceOfNoCopy() {
        says("false when there is no such copy");
        int[] none = {-1, 3, 4, 5, 6, MIN, MAX};
        for (int k : none) {
            SubflowBundle x = threeUnderWay();
            no("copy " + k, x.twice(0, false, k, 3));
            due("three", x.flight(0, false), 3);
        }
        SubflowBundle y = threeUnderWay();
        no("back pipe is empty", y.twice(0, true, 0, 3));
        no("new path", y.twice(1, false, 0, 3));
        y.close(0);
        no("closed path", y.twice(0, false, 0, 3));
    }

    private static void twiceLate() {
        says("false when late is not 1 .. 40");
        int[] refused = {0, -1, 41, MIN, MAX};
        for (int late : refused) {
            SubflowBundle x = threeUnderWay();
            no("late " + late, x.twice(0, false, 0, late));
            due("three", x.flight(0, false), 3);
        }
        int[] taken = {1, 2, 39, 40};
        for (int late : taken) {
            SubflowBundle x = made();
            x.open(0, 1, FOREIGN);
            yes("late " + late, x.twice(0, false, 0, late));
            x.lose(0, false, 0);
            x.delay(0, 0);
            due("not before", x.pass(late - 1), 0);
            due("then", x.pass(1), 1);
        }
    }

    private static void twiceIntoFullPipe() {
        says("false when the pipe holds 6 copies");
        SubflowBundle x = threeUnderWay();
        yes("fourth", x.twice(0, false, 0, 9));
        yes("fifth", x.twice(0, false, 0, 9));
        yes("sixth", x.twice(0, false, 0, 9));
        no("seventh", x.twice(0, false, 0, 9));
        due("six", x.flight(0, false), 6);
        x.lose(0, false, 5);
        yes("five again", x.twice(0, false, 4, 9));
        no("six", x.twice(0, false, 4, 9));

        SubflowBundle y = threeUnderWay();
        y.pass(2);
        for (int i = 0; i < 3; i++) {
            yes("back", y.twice(0, true, 0, 9));
        }
        no("seventh", y.twice(0, true, 0, 9));
        due("six", y.flight(0, true), 6);
        due("the other pipe does not count", y.flight(0, false), 0);
    }

    private static void twiceWithoutDelay() {
        says("(DELAY does not matter.)");
        SubflowBundle x = threeUnderWay();
        x.delay(0, 0);
        yes("with the delay 0", x.twice(0, false, 0, 1));
        due("four", x.flight(0, false), 4);
        due("it arrives", x.pass(1), 1);
        SubflowBundle y = threeUnderWay();
        y.delay(0, 40);
        yes("with the delay 40", y.twice(0, false, 0, 1));
        due("it arrives", y.pass(1), 1);
    }

    // Promise 11.

    private static void flights() {
        says("How many copies are in the back or the forward pipe of path p; NONE when p is not 0 .. 3");
        for (int p : NO_PATH) {
            due("forward", threeUnderWay().flight(p, false), NONE);
            due("back", threeUnderWay().flight(p, true), NONE);
        }
        for (int p = 0; p < 4; p++) {
            SubflowBundle x = made();
            due("new", x.flight(p, false), 0);
            x.open(p, 1, FOREIGN);
            for (int n = 1; n <= 6; n++) {
                due("forward", x.flight(p, false), n);
                due("back", x.flight(p, true), 0);
                x.twice(p, false, 0, 1);
            }
            due("no more than six", x.flight(p, false), 6);
            x.pass(1);
            due("forward", x.flight(p, false), 0);
            due("back", x.flight(p, true), 6);
            due("all six arrive", x.pass(1), 6);
            due("back", x.flight(p, true), 0);
        }
    }

    // Promise 12.

    private static void words() {
        noSuchWord();
        kindsAndPaths();
        numberOfUnits();
        endAmongUnits();
        checksumFolds();
        checksumOfUnits();
    }

    private static void noSuchWord() {
        says("0 when there is no such path, copy or word");
        SubflowBundle x = new SubflowBundle(1, 16, 0);
        x.open(0, 2, -1);
        due("there is a word 2", x.word(0, false, 0, 2), -1);
        int[] words = {-1, 4, 5, 16, MIN, MAX};
        for (int i : words) {
            due("word " + i, x.word(0, false, 0, i), 0);
        }
        int[] none = {-1, 1, 5, 6, MIN, MAX};
        for (int k : none) {
            due("copy " + k, x.word(0, false, k, 2), 0);
        }
        for (int p : NO_PATH) {
            due("path " + p, x.word(p, false, 0, 2), 0);
        }
        due("other pipe", x.word(0, true, 0, 2), 0);
        due("other path", x.word(1, false, 0, 2), 0);
        x.twice(0, false, 0, 2);
        due("copy 1", x.word(0, false, 1, 2), -1);
        due("copy 2", x.word(0, false, 2, 2), 0);
        x.lose(0, false, 0);
        due("copy 1 is gone", x.word(0, false, 1, 2), 0);
        x.close(0);
        due("closed", x.word(0, false, 0, 2), 0);
    }

    private static void kindsAndPaths() {
        says("Word 0: kind (SYN 0, DATA 1, ACK 2, REFUSE 3) in its highest two bits, p in the two below");
        for (int p = 0; p < 4; p++) {
            SubflowBundle x = new SubflowBundle(4, 16, 0);
            x.open(p, 1, 0);
            x.write(1, 0);
            due("SYN", x.word(p, false, 0, 0) >>> 28, p);
            x.pass(1);
            due("ACK", x.word(p, true, 0, 0) >>> 28, 8 + p);
            x.pass(1);
            due("DATA", x.word(p, false, 0, 0) >>> 28, 4 + p);
            int q = (p + 1) % 4;
            x.open(q, 1, 0);
            x.pass(1);
            due("REFUSE", x.word(q, true, 0, 0), (12 + q) << 28 | 65535 - (12 + q) * 4096);
        }
    }

    private static void numberOfUnits() {
        says("then the number of units it bears from bit 16 on (0 .. 7); the others are 0");
        SubflowBundle syn = made();
        syn.open(0, 1, 0);
        due("SYN", syn.word(0, false, 0, 0), 65535);
        for (int units = 1; units <= 7; units++) {
            SubflowBundle x = opened(7, 16, 1);
            x.write(units, 0);
            x.pass(1);
            int sum = 0x4000 + units + 1 + units * (units - 1) / 2;
            due(units + " units", x.word(0, false, 0, 0), (0x4000 + units) << 16 | 65535 - sum);
            due("the first of its numbers", x.word(0, false, 0, 1), 1);
            due("the first of its units", x.word(0, false, 0, 2), 0);
        }
        SubflowBundle y = opened(7, 16, 1);
        y.write(7, 0);
        y.pass(2);
        due("an ACK bears none", y.word(0, true, 0, 0) >>> 16, 0x8000);
    }

    private static void endAmongUnits() {
        says("1 if the END is among its units, else 0; the END as 256");
        SubflowBundle x = opened(2, 16, 1);
        x.write(3, 0);
        x.finish();
        x.pass(1);
        due("the first two", x.word(0, false, 0, 3), 0);
        due("the third and the END", x.word(0, false, 1, 3), 1);
        // 0x4002 + 3 + 2 + 1 + 2 + 256.
        due("word 0", x.word(0, false, 1, 0), 0x4002FFFF - 0x4002 - 264);

        SubflowBundle y = opened(2, 16, 1);
        y.write(2, 0);
        y.finish();
        y.pass(1);
        due("both bytes", y.word(0, false, 0, 3), 0);
        due("the END alone", y.word(0, false, 1, 3), 1);
        // 0x4001 + 3 + 2 + 1 + 256.
        due("word 0", y.word(0, false, 1, 0), 0x4001FFFF - 0x4001 - 262);
    }

    private static int synHead(int p, int token) {
        SubflowBundle x = made();
        x.open(p, 1, token);
        return x.word(p, false, 0, 0);
    }

    private static void checksumFolds() {
        says("while the sum s is above 65535 it becomes s % 65536 + s / 65536; CHECKSUM is 65535 - s");
        due("s 0", synHead(0, 0), 65535);
        due("s 65534", synHead(0, 65534), 1);
        due("s 65535 is not folded", synHead(0, 65535), 0);
        due("s 65536 is 1", synHead(0, 0x1FFFF), 65534);
        due("s 131070 is 65535", synHead(0, -1), 0);
        due("all high bits", synHead(0, 0xFFFF0000), 0);
        due("s 0x1FFFE is 65535", synHead(1, 0xFFFFEFFF), 0x10000000);
        due("s 0x1FFFF is 65536 is 1", synHead(1, 0xFFFFF000), 0x1000FFFE);
        due("s 0x20000 is 2", synHead(1, 0xFFFFF001), 0x1000FFFD);
        due("0x3000 + 0xFFFF + 0xFFFF is 0x3000", synHead(3, -1), 0x3000CFFF);
    }

    private static void checksumOfUnits() {
        says("and the units it bears (a byte as 0 .. 255, the END as 256) are added");
        SubflowBundle x = opened(7, 16, 1);
        x.write(2, 254);
        x.write(1, -1);
        x.finish();
        x.pass(1);
        // 0x4004 + 1 + 0 + 1 + 254 + 255 + 255 + 256.
        due("word 0", x.word(0, false, 0, 0), 0x4004FFFF - 0x4004 - 1022);
        // 0x8000 + 5 + 4 + 16.
        x.pass(1);
        due("an ACK", x.word(0, true, 0, 0), 0x8000FFFF - 0x8000 - 25);
    }

    // Promises 13, 14 and 15.

    private static void statesAndMeasures() {
        stateOfPath();
        smoothOfPath();
        timeoutOfPath();
    }

    private static void stateOfPath() {
        says("The STATE of path p, 0 .. 4; NONE when p is not 0 .. 3");
        for (int p : NO_PATH) {
            due("state of " + p, opened(4, 16, 1).state(p), NONE);
        }
        for (int p = 0; p < 4; p++) {
            SubflowBundle x = made();
            due("new", x.state(p), NEW);
            x.open(p, 1, FOREIGN);
            due("opening", x.state(p), OPENING);
            x.pass(1);
            due("opening", x.state(p), OPENING);
            x.pass(1);
            due("open", x.state(p), OPEN);
            x.delay(p, 0);
            x.write(1, 0);
            x.pass(6);
            due("open", x.state(p), OPEN);
            x.pass(1);
            due("stale", x.state(p), STALE);
            due("the others are new", x.state((p + 1) % 4), NEW);
            x.close(p);
            due("closed", x.state(p), CLOSED);
        }
    }

    private static void smoothOfPath() {
        says("S of path p (also when it is CLOSED); NONE when it has no MEASURE or p is not 0 .. 3");
        for (int p : NO_PATH) {
            due("smooth of " + p, opened(4, 16, 1).smooth(p), NONE);
        }
        for (int p = 0; p < 4; p++) {
            SubflowBundle x = made();
            due("new", x.smooth(p), NONE);
            x.open(p, 5, FOREIGN);
            x.pass(9);
            due("opening", x.smooth(p), NONE);
            x.pass(1);
            due("measured", x.smooth(p), 80);
            due("not the others", x.smooth((p + 1) % 4), NONE);
            x.close(p);
            due("closed", x.smooth(p), 80);
        }
        SubflowBundle y = made();
        y.open(0, 1, FOREIGN);
        y.lose(0, false, 0);
        y.pass(18);
        due("open without a MEASURE", y.smooth(0), NONE);
        y.close(0);
        due("closed without a MEASURE", y.smooth(0), NONE);
    }

    private static void timeoutOfPath() {
        says("TIMEOUT of path p (also when it is CLOSED); NONE when p is not 0 .. 3");
        for (int p : NO_PATH) {
            due("timeout of " + p, opened(4, 16, 1).timeout(p), NONE);
        }
        for (int p = 0; p < 4; p++) {
            SubflowBundle x = made();
            due("new", x.timeout(p), 16);
            x.open(p, 5, FOREIGN);
            due("opening", x.timeout(p), 16);
            x.pass(10);
            due("measured", x.timeout(p), 30);
            due("not the others", x.timeout((p + 1) % 4), 16);
            x.close(p);
            due("closed", x.timeout(p), 30);
        }
    }

    // Promise 16.

    private static void unackeds() {
        says("How many numbers are in unacknowledged segments of path p (SYN has one; 0 when it is CLOSED)");
        for (int p : NO_PATH) {
            due("unacked of " + p, threeUnderWay().unacked(p), NONE);
        }
        for (int p = 0; p < 4; p++) {
            SubflowBundle x = new SubflowBundle(7, 56, 0);
            due("new", x.unacked(p), 0);
            x.open(p, 1, FOREIGN);
            due("SYN", x.unacked(p), 1);
            x.pass(2);
            due("none", x.unacked(p), 0);
            x.write(400, 0);
            x.pass(1);
            due("three of seven", x.unacked(p), 21);
            due("not the others", x.unacked((p + 1) % 4), 0);
            x.close(p);
            due("closed", x.unacked(p), 0);
        }
    }

    // Promises 17 and 18.

    private static void acknowledgedAndReceived() {
        acknowledgedLags();
        receivedIsLeastNotTaken();
    }

    private static void acknowledgedLags() {
        says("ACKNOWLEDGED: all units below it are known to A to be B's");
        SubflowBundle x = opened(1, 16, 2);
        x.write(2, 0);
        x.finish();
        due("none", x.acknowledged(), 0);
        x.pass(4);
        due("B has them", x.received(), 3);
        due("A does not know", x.acknowledged(), 0);
        x.pass(1);
        due("now it does, the END too", x.acknowledged(), 3);

        SubflowBundle y = threeUnderWay();
        y.lose(0, false, 1);
        y.pass(4);
        due("up to the gap", y.acknowledged(), 1);
    }

    private static void receivedIsLeastNotTaken() {
        says("The least unit that B has not taken");
        int[] received = {0, 1, 2};
        for (int k = 0; k < 3; k++) {
            SubflowBundle x = threeUnderWay();
            x.lose(0, false, k);
            due("none", x.received(), 0);
            x.pass(2);
            due("up to the gap", x.received(), received[k]);
            x.pass(60);
            due("no gap", x.received(), 3);
            x.read();
            due("reading does not count", x.received(), 3);
        }
    }

    // Promise 19.

    private static void sents() {
        sentOfNoPath();
        sentFirstAndAgain();
        sentThoughLost();
    }

    private static void sentOfNoPath() {
        says("NONE when p is not 0 .. 3");
        for (int p : NO_PATH) {
            due("sent of " + p, threeUnderWay().sent(p), NONE);
        }
        for (int p = 0; p < 4; p++) {
            SubflowBundle x = made();
            due("new", x.sent(p), 0);
            x.open(p, 1, FOREIGN);
            due("SYN", x.sent(p), 1);
            due("not the others", x.sent((p + 1) % 4), 0);
        }
    }

    private static void sentFirstAndAgain() {
        says("How many times A sent a segment on path p, first and again (copies that twice() made are not sent)");
        SubflowBundle x = made();
        x.open(0, 1, FOREIGN);
        x.twice(0, false, 0, 1);
        due("a copy is not sent", x.sent(0), 1);
        x.pass(1);
        due("nor is an ACK", x.sent(0), 1);
        x.pass(1);
        x.write(8, 0);
        x.pass(1);
        due("two segments", x.sent(0), 3);
        x.lose(0, false, 1);
        x.lose(0, false, 0);
        x.pass(6);
        due("the first again", x.sent(0), 4);
        x.close(0);
        x.pass(60);
        due("closed", x.sent(0), 4);
    }

    private static void sentThoughLost() {
        says("those that were lost at once too");
        SubflowBundle x = made();
        x.open(0, 40, FOREIGN);
        for (int i = 0; i < 5; i++) {
            x.twice(0, false, 0, 40);
        }
        x.pass(16);
        due("the pipe is full", x.flight(0, false), 6);
        due("sent", x.sent(0), 2);
        SubflowBundle y = opened(4, 16, 1);
        y.delay(0, 0);
        y.write(8, 0);
        y.pass(1);
        due("the delay is 0", y.flight(0, false), 0);
        due("sent", y.sent(0), 3);
        y.pass(6);
        due("and again", y.sent(0), 4);
    }

    // Promise 20.

    private static void reinjecteds() {
        reinjectedEachTime();
        reinjectedNotWhenSentAgain();
        reinjectedOnlyThoseBefore();
    }

    private static void reinjectedEachTime() {
        says("that had been in another segment before, each time counted");
        SubflowBundle x = opened(4, 16, 1);
        openMore(x, 1, 1);
        openMore(x, 2, 1);
        openMore(x, 3, 1);
        x.write(3, 0);
        x.pass(1);
        due("on path 0", x.reinjected(), 0);
        x.close(0);
        x.pass(1);
        due("on path 1", x.reinjected(), 3);
        x.close(1);
        x.pass(1);
        due("on path 2", x.reinjected(), 6);
        x.close(2);
        x.pass(1);
        due("on path 3", x.reinjected(), 9);
        x.pass(2);
        due("known", x.acknowledged(), 3);
        due("no more", x.reinjected(), 9);
    }

    private static void reinjectedNotWhenSentAgain() {
        says("in segments when these were first sent");
        SubflowBundle x = stale();
        x.pass(60);
        x.pass(60);
        due("SYN, first and four times again", x.sent(0), 6);
        due("none", x.reinjected(), 0);
    }

    private static void reinjectedOnlyThoseBefore() {
        says("How many units there were that had been in another segment before: no other units of that segment");
        SubflowBundle x = opened(4, 16, 1);
        openMore(x, 1, 1);
        x.write(1, 0);
        x.pass(1);
        x.write(2, 1);
        x.close(0);
        x.pass(1);
        due("one segment of three", x.unacked(1), 3);
        due("one segment", x.flight(1, false), 1);
        due("one of them", x.reinjected(), 1);
    }

    // Promise 21.

    private static void tokens() {
        says("t is (key turned left by 7 bits) * 75011 + 1234577, wrapping; TOKEN is t ^ (t >>> 16)");
        int[] keys = {0, 1, -1, MIN, MAX, 1 << 24, 1 << 25, 12345, -98765, 0x01000001};
        for (int key : keys) {
            long turned = (((long) key << 7) | ((key & 0xFFFFFFFFL) >> 25)) & 0xFFFFFFFFL;
            long t = (turned * 75011L + 1234577L) % (1L << 32);
            int token = (int) (t ^ t >> 16);
            SubflowBundle x = new SubflowBundle(4, 16, key);
            due("token of " + key, x.token(), token);
            x.open(0, 1, 0);
            x.pass(2);
            due("always the same", x.token(), token);
            x.open(1, 1, token);
            x.pass(2);
            due("B knows it", x.state(1), OPEN);
        }
        due("by hand", new SubflowBundle(4, 16, 0).token(), 1234577 ^ 18);
        due("by hand", new SubflowBundle(4, 16, 1).token(), 0xA55811 ^ 0xA5);
    }
}
