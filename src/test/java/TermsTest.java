/**
 * The boundary cases of the document's section 'Terms': each sentence that names one has a method
 * of its own, with the last case inside it, the first one outside, and answers worked out by hand.
 */
public final class TermsTest {
    private static final int NONE = -1;
    private static final int TOKEN = 1234563;
    private static final int FOREIGN = 7;
    private static final int SYN = 0;
    private static final int DATA = 1;
    private static final int ACK = 2;
    private static final int REFUSE = 3;
    private static final int OPENING = 1;
    private static final int OPEN = 2;
    private static final int STALE = 3;
    private static final int CLOSED = 4;
    private static String sentence = "";
    private static int wrong = 0;

    public static void main(String[] args) {
        pipesAndDelays();
        segments();
        oneTick();
        hostB();
        acksAtA();
        measures();
        timers();
        looseUnits();
        sending();
        System.out.println(wrong == 0 ? "the terms hold" : wrong + " answers are not as due");
        if (wrong != 0) {
            System.exit(1);
        }
    }

    private static void says(String text) {
        sentence = text;
    }

    private static void due(String what, int got, int want) {
        if (got != want) {
            wrong++;
            System.out.println("'" + sentence + "': " + what + " answered " + got + ", due is " + want);
        }
    }

    private static void yes(String what, boolean got) {
        due(what, got ? 1 : 0, 1);
    }

    private static void no(String what, boolean got) {
        due(what, got ? 1 : 0, 0);
    }

    /** An object whose path 0 has just become OPEN, after 2 * delay ticks, with a measure when delay is 1 .. 8. */
    private static SubflowBundle opened(int mss, int buffer, int delay) {
        SubflowBundle x = new SubflowBundle(mss, buffer, 0);
        x.open(0, delay, FOREIGN);
        x.pass(2 * delay);
        return x;
    }

    /** One more path that is OPEN 2 * delay ticks later. */
    private static void openMore(SubflowBundle x, int p, int delay) {
        x.open(p, delay, TOKEN);
        x.pass(2 * delay);
    }

    private static void copies(SubflowBundle x, int p, boolean back, int count, int late) {
        for (int i = 0; i < count; i++) {
            yes("another copy", x.twice(p, back, 0, late));
        }
    }

    private static void ticks(SubflowBundle x, int n) {
        int left = n;
        while (left > 0) {
            x.pass(Math.min(left, 60));
            left -= 60;
        }
    }

    private static int kind(SubflowBundle x, int p, boolean back, int k) {
        return x.word(p, back, k, 0) >>> 30;
    }

    private static int units(SubflowBundle x, int p, int k) {
        return x.word(p, false, k, 0) >>> 16 & 15;
    }

    private static void ackSays(SubflowBundle x, int p, int k, int expects, int received, int limit) {
        due("kind", kind(x, p, true, k), ACK);
        due("ACK expects", x.word(p, true, k, 1), expects);
        due("ACK received", x.word(p, true, k, 2), received);
        due("ACK limit", x.word(p, true, k, 3), limit);
    }

    private static void dataSays(SubflowBundle x, int p, int k, int units, int number, int unit, int end) {
        due("kind", kind(x, p, false, k), DATA);
        due("units", units(x, p, k), units);
        due("first number", x.word(p, false, k, 1), number);
        due("first unit", x.word(p, false, k, 2), unit);
        due("END", x.word(p, false, k, 3), end);
    }

    // Pipes and delays.

    private static void pipesAndDelays() {
        synIntoFullPipe();
        dataIntoFullPipe();
        ackIntoFullPipe();
        refuseIntoFullPipe();
        otherDirectionDoesNotCount();
        delayZeroForward();
        delayZeroBack();
        dueAfterDelay();
        copiesKeepTheirTime();
    }

    private static void synIntoFullPipe() {
        says("when its pipe holds fewer than 6 copies it is put into the pipe, otherwise it is lost: SYN");
        SubflowBundle x = new SubflowBundle(4, 16, 0);
        x.open(0, 40, FOREIGN);
        copies(x, 0, false, 4, 40);
        due("five under way, none arrives", x.pass(16), 0);
        due("sent again", x.sent(0), 2);
        due("it is the sixth", x.flight(0, false), 6);
        due("the five", x.pass(24), 5);
        due("it is due 40 after it was sent", x.flight(0, false), 1);

        SubflowBundle y = new SubflowBundle(4, 16, 0);
        y.open(0, 40, FOREIGN);
        copies(y, 0, false, 5, 40);
        due("six under way, none arrives", y.pass(16), 0);
        due("sent again", y.sent(0), 2);
        due("no seventh", y.flight(0, false), 6);
        due("the six", y.pass(24), 6);
        due("it was lost", y.flight(0, false), 0);
    }

    private static SubflowBundle fiveOldSynsUnderWay() {
        SubflowBundle x = new SubflowBundle(1, 16, 0);
        x.open(0, 2, FOREIGN);
        copies(x, 0, false, 5, 40);
        x.pass(4);
        due("open", x.state(0), OPEN);
        due("five left", x.flight(0, false), 5);
        return x;
    }

    private static void dataIntoFullPipe() {
        says("when its pipe holds fewer than 6 copies it is put into the pipe, otherwise it is lost: DATA");
        SubflowBundle x = fiveOldSynsUnderWay();
        x.write(2, 0);
        x.pass(1);
        due("two segments sent", x.sent(0), 3);
        due("both are unacknowledged", x.unacked(0), 2);
        due("the first is the sixth copy, the second is lost", x.flight(0, false), 6);
        dataSays(x, 0, 5, 1, 1, 0, 0);
        // Unit 0 is acknowledged at 9: R = 4, S = 32, V = 8 - 2 = 6, so the timer is set to 9 + 10.
        x.pass(13);
        due("not again at tick 18", x.sent(0), 3);
        x.pass(1);
        due("again at tick 19", x.sent(0), 4);
        due("as the sixth", x.flight(0, false), 6);
        dataSays(x, 0, 5, 1, 2, 1, 0);

        SubflowBundle y = fiveOldSynsUnderWay();
        y.write(2, 0);
        y.pass(14);
        copies(y, 0, false, 1, 40);
        y.pass(1);
        due("again at tick 19", y.sent(0), 4);
        due("lost", y.flight(0, false), 6);
        due("the newest is an old SYN", kind(y, 0, false, 5), SYN);
    }

    /** Path 0 with so many ACKs in its back pipe, one due in the next tick, when a SYN arrives too. */
    private static SubflowBundle acksUnderWay(int count) {
        SubflowBundle x = new SubflowBundle(4, 16, 0);
        x.open(0, 1, FOREIGN);
        x.twice(0, false, 0, 2);
        x.pass(1);
        copies(x, 0, true, count - 1, 30);
        due("so many", x.flight(0, true), count);
        return x;
    }

    private static void ackIntoFullPipe() {
        says("when its pipe holds fewer than 6 copies it is put into the pipe, otherwise it is lost: ACK");
        SubflowBundle x = acksUnderWay(5);
        due("a SYN and an ACK", x.pass(1), 2);
        due("four and the answer", x.flight(0, true), 5);
        due("the answer arrives", x.pass(1), 1);

        says("then those of its back pipe: its due copies are still there when the forward ones arrive");
        SubflowBundle y = acksUnderWay(6);
        due("a SYN and an ACK", y.pass(1), 2);
        due("five, the answer is lost", y.flight(0, true), 5);
        due("no answer arrives", y.pass(1), 0);
    }

    /** Path 1 with so many REFUSEs that are due late in its back pipe, when a further SYN arrives next. */
    private static SubflowBundle refusesUnderWay(int count) {
        SubflowBundle x = opened(4, 16, 1);
        x.open(1, 1, FOREIGN);
        x.twice(1, false, 0, 2);
        x.pass(1);
        due("a REFUSE", kind(x, 1, true, 0), REFUSE);
        copies(x, 1, true, 4, 40);
        yes("the early one is lost", x.lose(1, true, 0));
        copies(x, 1, true, count - 4, 40);
        due("so many", x.flight(1, true), count);
        return x;
    }

    private static void refuseIntoFullPipe() {
        says("when its pipe holds fewer than 6 copies it is put into the pipe, otherwise it is lost: REFUSE");
        SubflowBundle x = refusesUnderWay(5);
        due("the SYN", x.pass(1), 1);
        due("the sixth", x.flight(1, true), 6);
        due("it arrives", x.pass(1), 1);
        due("closed", x.state(1), CLOSED);

        SubflowBundle y = refusesUnderWay(6);
        due("the SYN", y.pass(1), 1);
        due("no seventh", y.flight(1, true), 6);
        due("none arrives", y.pass(1), 0);
        due("opening", y.state(1), OPENING);
    }

    private static void otherDirectionDoesNotCount() {
        says("when its pipe in that direction holds fewer than 6 copies");
        SubflowBundle x = new SubflowBundle(4, 16, 0);
        x.open(0, 2, FOREIGN);
        copies(x, 0, false, 1, 3);
        copies(x, 0, false, 4, 40);
        x.pass(2);
        copies(x, 0, false, 1, 40);
        due("six forward", x.flight(0, false), 6);
        due("a SYN", x.pass(1), 1);
        due("its ACK is put behind the first one", x.flight(0, true), 2);

        SubflowBundle y = new SubflowBundle(4, 16, 0);
        y.open(0, 2, FOREIGN);
        y.pass(2);
        copies(y, 0, true, 1, 40);
        y.pass(2);
        copies(y, 0, true, 5, 40);
        due("six back", y.flight(0, true), 6);
        y.write(1, 0);
        y.pass(1);
        due("the DATA is put into the other pipe", y.flight(0, false), 1);
    }

    private static void delayZeroForward() {
        says("and the DELAY is not 0; otherwise it is lost: what A sends");
        SubflowBundle x = new SubflowBundle(4, 16, 0);
        x.open(0, 3, FOREIGN);
        x.delay(0, 0);
        x.pass(16);
        due("SYN is sent again", x.sent(0), 2);
        due("and lost", x.flight(0, false), 0);
        x.delay(0, 1);
        x.pass(32);
        due("SYN is sent again", x.sent(0), 3);
        due("and under way", x.flight(0, false), 1);

        for (int delay = 0; delay <= 1; delay++) {
            SubflowBundle y = opened(4, 16, 1);
            y.delay(0, delay);
            y.write(1, 0);
            y.pass(1);
            due("DATA is sent with the delay " + delay, y.sent(0), 2);
            due("unacknowledged, lost or not", y.unacked(0), 1);
            due("copies with the delay " + delay, y.flight(0, false), delay);
        }
    }

    private static void delayZeroBack() {
        says("and the DELAY is not 0; otherwise it is lost: what B sends");
        for (int delay = 0; delay <= 1; delay++) {
            SubflowBundle x = new SubflowBundle(4, 16, 0);
            x.open(0, 3, FOREIGN);
            x.delay(0, delay);
            due("SYN arrives", x.pass(3), 1);
            due("ACKs with the delay " + delay, x.flight(0, true), delay);

            SubflowBundle y = opened(4, 16, 1);
            y.open(1, 3, FOREIGN);
            y.delay(1, delay);
            due("SYN arrives", y.pass(3), 1);
            due("REFUSEs with the delay " + delay, y.flight(1, true), delay);
        }
    }

    private static void dueAfterDelay() {
        says("DUE at the time NOW + DELAY");
        SubflowBundle x = new SubflowBundle(4, 16, 0);
        x.open(0, 1, FOREIGN);
        due("forward, the delay 1", x.pass(1), 1);
        due("back, the delay 1", x.pass(1), 1);

        SubflowBundle y = new SubflowBundle(4, 16, 0);
        y.open(0, 40, FOREIGN);
        due("forward, before the delay 40", y.pass(39), 0);
        due("forward, the delay 40", y.pass(1), 1);

        SubflowBundle z = new SubflowBundle(4, 16, 0);
        z.open(0, 1, FOREIGN);
        z.delay(0, 40);
        due("SYN", z.pass(1), 1);
        due("back, before the delay 40", z.pass(39), 0);
        due("back, the delay 40", z.pass(1), 1);
    }

    private static void copiesKeepTheirTime() {
        says("DELAY counts when a copy is sent; copies that are in a pipe keep the time at which they are due");
        SubflowBundle x = opened(1, 16, 8);
        x.write(1, 0);
        x.pass(1);
        x.delay(0, 1);
        x.write(1, 0);
        due("both are under way", x.pass(1), 0);
        due("the older one first", x.word(0, false, 0, 2), 0);
        due("the newer one behind it", x.word(0, false, 1, 2), 1);
        due("the newer one is due at tick 19", x.pass(1), 1);
        due("the older one is left", x.word(0, false, 0, 2), 0);
        due("a gap", x.received(), 0);
        due("its ACK", x.pass(1), 1);
        due("nothing until tick 24", x.pass(4), 0);
        due("the older one at tick 25", x.pass(1), 1);
        due("no gap", x.received(), 2);

        SubflowBundle y = new SubflowBundle(4, 16, 0);
        y.open(0, 5, FOREIGN);
        y.delay(0, 0);
        due("what is under way arrives though the DELAY is 0 by now", y.pass(5), 1);
    }

    // Segments.

    private static void segments() {
        synHasNumberZero();
        oneToMssUnits();
        sentAgainAlike();
        unacknowledgedUntil();
    }

    private static void synHasNumberZero() {
        says("its first segment, SYN, has the number 0 alone, and bears a token and no unit");
        SubflowBundle x = new SubflowBundle(4, 16, 0);
        x.write(9, 0);
        x.open(3, 2, -5);
        due("one number", x.unacked(3), 1);
        due("kind", kind(x, 3, false, 0), SYN);
        due("no unit", units(x, 3, 0), 0);
        due("number", x.word(3, false, 0, 1), 0);
        due("token", x.word(3, false, 0, 2), -5);
        due("nothing else", x.word(3, false, 0, 3), 0);
        x.pass(4);
        due("the next number is 1", x.word(3, false, 0, 1), 1);
    }

    private static void oneToMssUnits() {
        says("each later one, DATA, bears 1 to MSS consecutive units of the stream and has one number for each of them");
        for (int mss = 1; mss <= 7; mss++) {
            SubflowBundle x = opened(mss, 56, 1);
            x.write(1, 0);
            x.pass(1);
            due("one segment", x.flight(0, false), 1);
            dataSays(x, 0, 0, 1, 1, 0, 0);

            SubflowBundle y = opened(mss, 56, 1);
            y.write(mss, 0);
            y.pass(1);
            due("one segment of MSS", y.flight(0, false), 1);
            dataSays(y, 0, 0, mss, 1, 0, 0);
            due("numbers", y.unacked(0), mss);

            SubflowBundle z = opened(mss, 56, 1);
            z.write(mss + 1, 0);
            z.pass(1);
            due("two segments", z.flight(0, false), 2);
            dataSays(z, 0, 0, mss, 1, 0, 0);
            dataSays(z, 0, 1, 1, 1 + mss, mss, 0);
            due("numbers", z.unacked(0), mss + 1);
        }
    }

    private static void sentAgainAlike() {
        says("It may be sent several times, each time as a new copy, always with the same numbers and units");
        SubflowBundle x = opened(4, 16, 1);
        x.write(1, 9);
        x.pass(1);
        int[] words = new int[4];
        for (int i = 0; i < 4; i++) {
            words[i] = x.word(0, false, 0, i);
        }
        x.lose(0, false, 0);
        // More units are there when the segment is sent again at tick 9, the END among them.
        x.write(2, 10);
        x.finish();
        x.pass(6);
        due("sent again", x.sent(0), 4);
        due("one copy", x.flight(0, false), 1);
        for (int i = 0; i < 4; i++) {
            due("word " + i, x.word(0, false, 0, i), words[i]);
        }
        dataSays(x, 0, 0, 1, 1, 0, 0);
    }

    private static void unacknowledgedUntil() {
        says("A segment is UNACKNOWLEDGED from its first sending until it is acknowledged or its path is CLOSED");
        SubflowBundle x = opened(4, 16, 1);
        x.write(3, 0);
        due("not sent yet", x.unacked(0), 0);
        x.pass(1);
        due("sent", x.unacked(0), 3);
        x.pass(1);
        due("at B", x.unacked(0), 3);
        x.pass(1);
        due("acknowledged", x.unacked(0), 0);
        x.write(3, 0);
        x.pass(1);
        due("sent", x.unacked(0), 3);
        x.close(0);
        due("closed", x.unacked(0), 0);
    }

    // One tick.

    private static void oneTick() {
        oldestFirst();
        lowerPathFirst();
        forwardBeforeBack();
        refuseEmptiesBackPipe();
        arrivalsBeforeRings();
        ringsBeforeSending();
    }

    private static void oldestFirst() {
        says("the copies in its forward pipe that are due are taken out one after the other, the oldest first");
        SubflowBundle x = opened(1, 16, 2);
        x.write(2, 0);
        x.pass(1);
        due("both at once", x.pass(2), 2);
        ackSays(x, 0, 0, 2, 1, 16);
        ackSays(x, 0, 1, 3, 2, 16);

        SubflowBundle y = opened(1, 16, 2);
        y.write(2, 0);
        y.pass(1);
        y.twice(0, false, 0, 2);
        y.lose(0, false, 0);
        due("the older one is now unit 1", y.word(0, false, 0, 2), 1);
        due("both at once", y.pass(2), 2);
        ackSays(y, 0, 0, 1, 0, 16);
        ackSays(y, 0, 1, 3, 2, 16);
    }

    private static void lowerPathFirst() {
        says("for path 0, 1, 2, 3 in turn");
        SubflowBundle x = opened(2, 16, 2);
        openMore(x, 1, 2);
        x.write(8, 0);
        x.pass(1);
        due("all four at once", x.pass(2), 4);
        ackSays(x, 0, 0, 3, 2, 16);
        ackSays(x, 0, 2, 7, 6, 16);
        ackSays(x, 1, 0, 3, 8, 16);

        SubflowBundle y = opened(2, 16, 3);
        openMore(y, 1, 2);
        y.delay(0, 2);
        y.write(8, 0);
        y.pass(1);
        due("path 0, which was slower, has the last two units", y.word(0, false, 0, 2), 6);
        due("all four at once", y.pass(2), 4);
        ackSays(y, 0, 0, 3, 0, 16);
        ackSays(y, 1, 0, 3, 2, 16);
        ackSays(y, 1, 2, 7, 8, 16);
    }

    private static void forwardBeforeBack() {
        says("then those of its back pipe that are due likewise: after the forward ones");
        SubflowBundle x = opened(4, 16, 1);
        x.open(1, 1, FOREIGN);
        x.twice(1, false, 0, 2);
        due("SYN", x.pass(1), 1);
        due("a SYN again, and the REFUSE that closes behind it", x.pass(1), 2);
        due("closed", x.state(1), CLOSED);
        due("the second answer is gone", x.flight(1, true), 0);
    }

    private static void refuseEmptiesBackPipe() {
        says("REFUSE arrives on a path: the path is closed as by close()");
        SubflowBundle x = opened(4, 16, 1);
        x.open(1, 1, FOREIGN);
        x.pass(1);
        copies(x, 1, true, 1, 1);
        copies(x, 1, true, 1, 9);
        copies(x, 1, true, 1, 1);
        due("the first of three that are due", x.pass(1), 1);
        due("closed", x.state(1), CLOSED);
        due("back pipe", x.flight(1, true), 0);
        due("unacked", x.unacked(1), 0);
        due("sent", x.sent(1), 1);
        due("none arrives any more", x.pass(60), 0);
        due("timer stopped", x.sent(1), 1);
        due("timeout stays", x.timeout(1), 16);
        no("closed for good", x.open(1, 1, TOKEN));
    }

    private static void arrivalsBeforeRings() {
        says("(1) arrivals (2) if its TIMER is set to NOW, it RINGS");
        SubflowBundle x = new SubflowBundle(4, 16, 0);
        x.open(0, 8, FOREIGN);
        due("SYN and ACK", x.pass(16), 2);
        due("the ACK at tick 16 stopped the timer in time", x.sent(0), 1);
        due("open", x.state(0), OPEN);
        due("16 + 32", x.timeout(0), 48);

        SubflowBundle y = new SubflowBundle(4, 16, 0);
        y.open(0, 8, FOREIGN);
        y.pass(7);
        y.delay(0, 9);
        due("SYN alone", y.pass(9), 1);
        due("no ACK in time", y.sent(0), 2);
        due("opening", y.state(0), OPENING);
        due("doubled", y.timeout(0), 32);
    }

    private static void ringsBeforeSending() {
        says("(2) rings (3) A SENDS");
        SubflowBundle x = opened(4, 16, 1);
        openMore(x, 1, 1);
        x.delay(0, 0);
        x.write(2, 0);
        x.pass(1);
        due("on path 0", x.unacked(0), 2);
        x.pass(5);
        due("path 0 is open", x.state(0), OPEN);
        due("nothing on path 1", x.unacked(1), 0);
        x.pass(1);
        due("path 0 is stale", x.state(0), STALE);
        due("in the same tick on path 1", x.unacked(1), 2);
    }

    // Host B.

    private static void hostB() {
        limitIsReadPlusBuffer();
        limitGoesBeyondTheStream();
        numbersAsTheyAreThen();
        firstSynWhateverItsToken();
        laterSynNeedsToken();
        refusedSynIsNotTaken();
        synArrivesAgain();
        dataArrivesAgain();
        sameUnitsOnOtherPath();
        lastUnitBelowLimit();
        expectsLeastNumber();
    }

    private static void limitIsReadPlusBuffer() {
        says("a LIMIT, which is the number of units read plus BUFFER");
        SubflowBundle x = opened(7, 5, 1);
        x.write(2, 0);
        x.finish();
        due("nothing there", x.read(), NONE);
        x.pass(1);
        copies(x, 0, false, 1, 11);
        copies(x, 0, false, 1, 21);
        copies(x, 0, false, 1, 31);
        x.pass(1);
        ackSays(x, 0, 0, 4, 3, 5);
        due("first", x.read(), 0);
        x.pass(10);
        ackSays(x, 0, 0, 4, 3, 6);
        due("second", x.read(), 1);
        x.pass(10);
        ackSays(x, 0, 0, 4, 3, 7);
        due("the END is not read", x.read(), -2);
        due("the END is not read", x.read(), -2);
        x.pass(10);
        ackSays(x, 0, 0, 4, 3, 7);
    }

    private static void limitGoesBeyondTheStream() {
        says("LIMIT, which is the number of units read plus BUFFER: also when no unit is left for it");
        SubflowBundle x = opened(7, 56, 1);
        x.write(400, 0);
        x.finish();
        int bytes = 0;
        for (int round = 0; round < 30; round++) {
            x.pass(3);
            for (int i = 0; i < 56 && x.read() >= 0; i++) {
                bytes++;
            }
        }
        due("bytes", bytes, 400);
        x.open(1, 1, TOKEN);
        x.pass(1);
        ackSays(x, 1, 0, 1, 401, 456);
    }

    private static void numbersAsTheyAreThen() {
        says("B then sends an ACK back on the same path with three numbers, as they are then");
        SubflowBundle x = opened(1, 16, 3);
        x.write(2, 0);
        x.pass(1);
        x.delay(0, 9);
        x.lose(0, false, 1);
        x.write(1, 0);
        due("unit 0", x.pass(3), 1);
        ackSays(x, 0, 0, 2, 1, 16);
        due("a byte", x.read(), 0);
        ackSays(x, 0, 0, 2, 1, 16);
        // Unit 2, sent at tick 8, leaves a gap; its ACK is behind the first one.
        due("unit 2 at tick 17", x.pass(7), 1);
        ackSays(x, 0, 0, 2, 1, 16);
        ackSays(x, 0, 1, 2, 1, 17);
    }

    private static void firstSynWhateverItsToken() {
        says("if it is the first SYN of all that B takes, whatever its token");
        int[] tokens = {0, -1, Integer.MIN_VALUE, Integer.MAX_VALUE, TOKEN - 1, TOKEN, TOKEN + 1};
        for (int token : tokens) {
            SubflowBundle x = new SubflowBundle(4, 16, 0);
            x.open(2, 1, token);
            x.pass(1);
            ackSays(x, 2, 0, 1, 0, 16);
            x.pass(1);
            due("open with " + token, x.state(2), OPEN);
        }
        SubflowBundle y = new SubflowBundle(4, 16, 0);
        y.open(0, 2, FOREIGN);
        y.pass(1);
        y.close(0);
        y.open(1, 2, FOREIGN);
        y.pass(4);
        due("the SYN of path 0 never came to B", y.state(1), OPEN);

        SubflowBundle z = new SubflowBundle(4, 16, 0);
        z.open(0, 2, FOREIGN);
        z.pass(2);
        z.close(0);
        z.open(1, 2, FOREIGN);
        z.pass(4);
        due("B took the SYN of path 0 before it was closed", z.state(1), CLOSED);
    }

    private static void laterSynNeedsToken() {
        says("or its token is TOKEN, B takes it");
        int[] firsts = {FOREIGN, TOKEN};
        for (int first : firsts) {
            int[] others = {FOREIGN, TOKEN - 1, TOKEN + 1, ~TOKEN, TOKEN ^ 1 << 31, 0};
            for (int other : others) {
                SubflowBundle x = new SubflowBundle(4, 16, 0);
                x.open(0, 1, first);
                x.pass(2);
                x.open(1, 1, other);
                x.pass(1);
                due("REFUSE of " + other, kind(x, 1, true, 0), REFUSE);
                x.pass(1);
                due("closed", x.state(1), CLOSED);
            }
            SubflowBundle y = new SubflowBundle(4, 16, 0);
            y.open(0, 1, first);
            y.pass(2);
            y.open(1, 1, TOKEN);
            y.pass(1);
            ackSays(y, 1, 0, 1, 0, 16);
            y.pass(1);
            due("open", y.state(1), OPEN);
        }
    }

    private static void refusedSynIsNotTaken() {
        says("Otherwise B sends a REFUSE back on that path, and nothing else happens");
        SubflowBundle x = opened(4, 16, 1);
        x.open(1, 1, FOREIGN);
        due("SYN", x.pass(1), 1);
        due("one answer alone", x.flight(1, true), 1);
        for (int i = 1; i < 4; i++) {
            due("REFUSE word", x.word(1, true, 0, i), 0);
        }
        x.lose(1, true, 0);
        // Sent again at 2 + 16; B still expects 0 there.
        x.pass(15);
        due("SYN again", x.sent(1), 2);
        x.pass(1);
        due("refused again", kind(x, 1, true, 0), REFUSE);
        due("not for the others", x.state(0), OPEN);
        due("received", x.received(), 0);
    }

    private static void synArrivesAgain() {
        says("SYN on a path on which B expects more than 0 is not taken again");
        SubflowBundle x = new SubflowBundle(4, 16, 0);
        x.open(0, 2, FOREIGN);
        x.twice(0, false, 0, 3);
        x.twice(0, false, 0, 20);
        due("both SYNs", x.pass(3), 2);
        // Its token is not TOKEN, but that counts on a path alone on which B expects 0.
        ackSays(x, 0, 0, 1, 0, 16);
        ackSays(x, 0, 1, 1, 0, 16);
        x.pass(1);
        x.write(3, 0);
        due("an ACK, the DATA, its ACK and the late SYN", x.pass(16), 4);
        ackSays(x, 0, 0, 4, 3, 16);
    }

    private static void dataArrivesAgain() {
        says("B takes it unless it took that segment before (another copy of it)");
        SubflowBundle x = opened(2, 16, 2);
        x.write(2, 50);
        x.pass(1);
        x.twice(0, false, 0, 5);
        x.pass(4);
        due("acknowledged", x.acknowledged(), 2);
        due("first", x.read(), 50);
        due("the other copy", x.pass(1), 1);
        ackSays(x, 0, 0, 3, 2, 17);
        due("received", x.received(), 2);
        due("second", x.read(), 51);
        due("no third", x.read(), NONE);
    }

    private static void sameUnitsOnOtherPath() {
        says("B takes it unless it took that segment before: the same units in a segment of another path are taken");
        SubflowBundle x = opened(2, 16, 1);
        openMore(x, 1, 1);
        x.write(2, 50);
        x.pass(1);
        x.delay(0, 0);
        due("DATA on path 0, its ACK is lost", x.pass(6), 1);
        due("received", x.received(), 2);
        due("on path 1", x.reinjected(), 2);
        x.pass(1);
        ackSays(x, 1, 0, 3, 2, 16);
        x.pass(1);
        due("acknowledged on path 1", x.unacked(1), 0);
        due("first", x.read(), 50);
        due("second", x.read(), 51);
        due("no third", x.read(), NONE);
    }

    private static void lastUnitBelowLimit() {
        says("or its last unit is not below LIMIT");
        SubflowBundle x = opened(1, 4, 1);
        x.write(6, 0);
        x.pass(4);
        due("unit 3 is below 4", x.received(), 4);
        ackSays(x, 0, 0, 5, 4, 4);
        x.pass(2);
        due("unit 4 is not", x.received(), 4);
        due("its copy has arrived", x.flight(0, false), 0);
        ackSays(x, 0, 0, 5, 4, 4);
        due("a byte", x.read(), 0);
        x.pass(5);
        due("sent again at tick 13", x.flight(0, false), 1);
        x.pass(1);
        due("unit 4 is below 5", x.received(), 5);
        ackSays(x, 0, 0, 6, 5, 5);

        SubflowBundle y = opened(7, 7, 1);
        y.write(7, 0);
        y.pass(2);
        due("a segment up to 6 with the LIMIT 7", y.received(), 7);
    }

    private static void expectsLeastNumber() {
        says("B expects on this path the least number that is in no segment taken on it");
        SubflowBundle x = opened(2, 16, 2);
        x.write(6, 0);
        x.pass(1);
        x.lose(0, false, 0);
        due("the second and the third", x.pass(2), 2);
        ackSays(x, 0, 0, 1, 0, 16);
        ackSays(x, 0, 1, 1, 0, 16);
        x.pass(9);
        due("not again at tick 16", x.flight(0, false), 0);
        x.pass(1);
        due("the first again at tick 17", x.flight(0, false), 1);
        x.pass(2);
        ackSays(x, 0, 0, 7, 6, 16);
    }

    // What an ACK does at A.

    private static void acksAtA() {
        olderAckTakesNothingBack();
        numbersBelowFirst();
        noSuchSegment();
        lateAckStillTells();
    }

    private static void olderAckTakesNothingBack() {
        says("if its second number is greater than ACKNOWLEDGED; if its third is greater than EDGE");
        SubflowBundle x = opened(4, 4, 2);
        x.write(4, 0);
        x.pass(3);
        ackSays(x, 0, 0, 5, 4, 4);
        x.twice(0, true, 0, 20);
        x.pass(2);
        due("known", x.acknowledged(), 4);
        for (int i = 0; i < 4; i++) {
            due("byte", x.read(), i);
        }
        x.write(1, 4);
        x.pass(5);
        due("unit 4 was sent beyond EDGE and told of EDGE 8", x.acknowledged(), 5);
        due("the old ACK", x.pass(13), 1);
        due("nothing is taken back", x.acknowledged(), 5);
        x.write(4, 5);
        x.pass(1);
        due("units 5, 6, 7 are below EDGE 8", x.unacked(0), 3);
    }

    private static void numbersBelowFirst() {
        says("All unacknowledged segments of that path all of whose numbers are below its first number");
        SubflowBundle x = opened(2, 16, 2);
        x.write(6, 0);
        x.pass(1);
        x.lose(0, false, 2);
        x.pass(2);
        x.lose(0, true, 0);
        ackSays(x, 0, 0, 5, 4, 16);
        x.pass(2);
        due("numbers 1 to 4 by one ACK, 5 and 6 not", x.unacked(0), 2);

        SubflowBundle y = opened(2, 16, 2);
        y.write(6, 0);
        y.pass(1);
        y.lose(0, false, 0);
        y.pass(4);
        due("none below number 1", y.unacked(0), 6);

        SubflowBundle z = opened(2, 16, 2);
        z.write(6, 0);
        z.pass(3);
        z.lose(0, true, 0);
        z.lose(0, true, 0);
        ackSays(z, 0, 0, 7, 6, 16);
        z.pass(2);
        due("all three by one ACK", z.unacked(0), 0);
    }

    private static void noSuchSegment() {
        says("If there was no such segment, that is all");
        SubflowBundle x = new SubflowBundle(4, 16, 0);
        x.open(0, 2, FOREIGN);
        x.pass(2);
        x.twice(0, true, 0, 30);
        x.pass(2);
        x.delay(0, 0);
        x.write(1, 0);
        x.pass(13);
        due("stale at tick 17", x.state(0), STALE);
        due("doubled", x.timeout(0), 24);
        due("the ACK of the SYN again, at tick 32", x.pass(15), 1);
        due("still stale", x.state(0), STALE);
        due("timeout", x.timeout(0), 24);
        due("smooth", x.smooth(0), 32);
        due("unacked", x.unacked(0), 1);
        x.pass(8);
        due("the timer stays at tick 41", x.sent(0), 3);
        x.pass(1);
        due("the ring", x.sent(0), 4);
    }

    private static void lateAckStillTells() {
        says("ACKNOWLEDGED becomes that; EDGE becomes that: also when no segment is acknowledged by it");
        SubflowBundle x = opened(4, 4, 2);
        x.open(1, 3, TOKEN);
        x.twice(1, false, 0, 11);
        x.pass(6);
        x.write(8, 0);
        x.pass(3);
        x.lose(0, true, 0);
        due("byte", x.read(), 0);
        due("byte", x.read(), 1);
        // The late SYN of path 1 is answered at tick 15; that ACK arrives at tick 18.
        x.pass(4);
        due("not told yet", x.acknowledged(), 0);
        x.pass(1);
        due("told on path 1", x.acknowledged(), 4);
        due("the quicker path sends the units below EDGE 6", x.word(0, false, 0, 2), 4);
        due("two units", units(x, 0, 0), 2);
        due("its first four are not acknowledged", x.unacked(0), 4 + 2);
    }

    // Measures.

    private static void measures() {
        sentOnlyOnce();
        lastOfThemCounts();
        divisionsRoundDown();
        timeoutAtLeastSix();
        timeoutAtMost120();
    }

    /** Path 0 is OPEN without a MEASURE, with the TIMEOUT 64: its SYN was sent at 0, 16 and 48. */
    private static SubflowBundle openUnmeasured(int mss) {
        SubflowBundle x = new SubflowBundle(mss, 56, 0);
        x.open(0, 40, FOREIGN);
        ticks(x, 200);
        due("open", x.state(0), OPEN);
        due("no measure", x.smooth(0), NONE);
        due("timeout", x.timeout(0), 64);
        return x;
    }

    /** Sends one unit, which takes so many ticks there and its ACK so many back. */
    private static void roundTrip(SubflowBundle x, int there, int back) {
        x.delay(0, there);
        x.write(1, 0);
        x.pass(1);
        x.delay(0, back);
        ticks(x, there + back);
        due("acknowledged", x.unacked(0), 0);
    }

    private static void measured(SubflowBundle x, int smooth, int timeout) {
        due("S", x.smooth(0), smooth);
        due("TIMEOUT", x.timeout(0), timeout);
    }

    private static void sentOnlyOnce() {
        says("if the last one of them was sent only once, R, the ticks since then, is measured");
        SubflowBundle x = new SubflowBundle(4, 16, 0);
        x.open(0, 8, FOREIGN);
        x.pass(16);
        measured(x, 128, 48);

        SubflowBundle y = new SubflowBundle(4, 16, 0);
        y.open(0, 9, FOREIGN);
        y.pass(18);
        due("sent twice", y.sent(0), 2);
        due("open", y.state(0), OPEN);
        measured(y, NONE, 32);

        SubflowBundle lost = opened(4, 16, 1);
        lost.delay(0, 0);
        lost.write(1, 0);
        lost.pass(1);
        lost.delay(0, 1);
        lost.pass(8);
        due("acknowledged", lost.unacked(0), 0);
        // Sent at 3 and at 9: the first time counts though it was lost at once.
        measured(lost, 16, 12);

        SubflowBundle z = new SubflowBundle(4, 16, 0);
        z.open(0, 3, FOREIGN);
        copies(z, 0, false, 3, 5);
        z.pass(6);
        due("a copy is no sending", z.sent(0), 1);
        measured(z, 48, 18);
    }

    private static void lastOfThemCounts() {
        says("the last one of them (the one with the greatest numbers)");
        SubflowBundle x = opened(1, 16, 2);
        x.write(1, 0);
        x.pass(1);
        x.lose(0, false, 0);
        x.write(1, 0);
        x.pass(1);
        // The first is sent at 5 and again at 17, the second at 6 alone; at 21 both are acknowledged.
        x.pass(15);
        due("both", x.unacked(0), 0);
        due("32 - 4 + 15", x.smooth(0), 43);
        due("5 + 8 - 2 + 11", x.timeout(0), 22);

        SubflowBundle y = opened(1, 16, 2);
        y.write(2, 0);
        y.pass(1);
        y.lose(0, false, 1);
        // The second is sent at 5 and again at 19, for its timer was set to 9 + 10 by the ACK at 9.
        y.pass(4);
        measured(y, 32, 10);
        y.pass(14);
        due("both", y.unacked(0), 0);
        due("the second was sent twice", y.sent(0), 4);
        measured(y, 32, 20);
    }

    private static void divisionsRoundDown() {
        says("V becomes V - V / 4 + |S / 8 - R| and then S becomes S - S / 8 + R (divisions round down)");
        SubflowBundle x = opened(1, 56, 3);
        measured(x, 48, 18);
        // V = 12 - 3 + 1 = 10.
        roundTrip(x, 3, 4);
        measured(x, 49, 16);
        // V = 10 - 2 + 1 = 9.
        roundTrip(x, 3, 4);
        measured(x, 50, 15);
        // V = 9 - 2 + 1 = 8, with R below S / 8.
        roundTrip(x, 3, 2);
        measured(x, 49, 14);
        // V = 8 - 2 + |6 - 14| = 14, with S / 8 as it was before.
        roundTrip(x, 7, 7);
        measured(x, 57, 21);
        // V = 14 - 3 + |7 - 2| = 16; S = 57 - 7 + 2.
        roundTrip(x, 1, 1);
        measured(x, 52, 22);
    }

    private static void timeoutAtLeastSix() {
        says("TIMEOUT becomes S / 8 + V, but 6 if that is less");
        SubflowBundle x = opened(1, 56, 1);
        // 2 + 4.
        measured(x, 16, 6);
        // V = 4 - 1 = 3; 2 + 3 is less.
        roundTrip(x, 1, 1);
        measured(x, 16, 6);
        // V = 3 - 0 + 1 = 4; 2 + 4.
        roundTrip(x, 1, 2);
        measured(x, 17, 6);
        // V = 4 - 1 + 2 = 5; S = 17 - 2 + 4; 2 + 5.
        roundTrip(x, 2, 2);
        measured(x, 19, 7);
    }

    private static void timeoutAtMost120() {
        says("TIMEOUT becomes S / 8 + V, 120 if that is more");
        int[][] first = {{19, 20, 312, 117}, {20, 20, 320, 120}, {20, 21, 328, 120}};
        for (int[] row : first) {
            SubflowBundle x = openUnmeasured(1);
            roundTrip(x, row[0], row[1]);
            measured(x, row[2], row[3]);
        }
        // After S = 320, V = 80: V = 60 + R - 40 and S = 280 + R, so 42 + 77, 42 + 78, 42 + 79.
        int[][] second = {{27, 30, 337, 119}, {28, 30, 338, 120}, {29, 30, 339, 120}};
        for (int[] row : second) {
            SubflowBundle x = openUnmeasured(1);
            roundTrip(x, 20, 20);
            roundTrip(x, row[0], row[1]);
            measured(x, row[2], row[3]);
        }
    }

    // Timers.

    private static void timers() {
        ringsAtItsTime();
        stoppedWhenNoneUnacknowledged();
        setAnewWhenSomeUnacknowledged();
        setOnlyWhileStopped();
        doublesToAtMost120();
        openBecomesStale();
        becomesOpenAgain();
        leastNumbersSentAgain();
    }

    private static void ringsAtItsTime() {
        says("if its TIMER is set to NOW, it RINGS");
        SubflowBundle x = new SubflowBundle(4, 16, 0);
        x.pass(5);
        x.open(0, 1, FOREIGN);
        x.delay(0, 0);
        x.lose(0, false, 0);
        x.pass(15);
        due("before 5 + 16", x.sent(0), 1);
        x.pass(1);
        due("at 5 + 16", x.sent(0), 2);
        x.pass(31);
        due("before 21 + 32", x.sent(0), 2);
        x.pass(1);
        due("at 21 + 32", x.sent(0), 3);
        due("the others have no timer", x.timeout(1) + x.timeout(2) + x.timeout(3), 48);
    }

    private static void stoppedWhenNoneUnacknowledged() {
        says("its TIMER is stopped when no segment of it is unacknowledged");
        SubflowBundle x = opened(1, 16, 1);
        x.write(2, 0);
        x.pass(3);
        due("none", x.unacked(0), 0);
        ticks(x, 200);
        due("no ring", x.sent(0), 3);
        due("open", x.state(0), OPEN);
        due("timeout", x.timeout(0), 6);
    }

    private static void setAnewWhenSomeUnacknowledged() {
        says("else set to NOW + TIMEOUT");
        SubflowBundle x = opened(1, 16, 2);
        x.write(2, 0);
        x.pass(1);
        x.lose(0, false, 1);
        // At tick 9 one is acknowledged, the other not: TIMEOUT is 4 + 6 then.
        x.pass(4);
        due("one", x.unacked(0), 1);
        due("timeout", x.timeout(0), 10);
        x.pass(9);
        due("open at tick 18", x.state(0), OPEN);
        x.pass(1);
        due("rung at tick 19", x.state(0), STALE);
    }

    private static void setOnlyWhileStopped() {
        says("The TIMER is also set to NOW + TIMEOUT when a segment is first sent while it is stopped");
        SubflowBundle x = opened(1, 16, 1);
        x.delay(0, 0);
        x.pass(7);
        x.write(1, 0);
        x.pass(1);
        due("sent at tick 10", x.sent(0), 2);
        x.write(1, 0);
        x.pass(1);
        due("another at tick 11", x.sent(0), 3);
        x.pass(4);
        due("none again at tick 15", x.sent(0), 3);
        x.pass(1);
        due("one again at tick 16", x.sent(0), 4);
        x.pass(11);
        due("none again at tick 27", x.sent(0), 4);
        x.pass(1);
        due("one again at tick 28", x.sent(0), 5);
    }

    /** Lets the timer ring so often; each time the TIMEOUT before and after it is told. */
    private static void rings(SubflowBundle x, int... timeouts) {
        x.delay(0, 0);
        x.write(1, 0);
        x.pass(1);
        int sent = x.sent(0);
        for (int i = 0; i + 1 < timeouts.length; i++) {
            ticks(x, timeouts[i] - 1);
            due("before ring " + i, x.timeout(0), timeouts[i]);
            due("before ring " + i, x.sent(0), sent + i);
            x.pass(1);
            due("after ring " + i, x.timeout(0), timeouts[i + 1]);
            due("after ring " + i, x.sent(0), sent + i + 1);
        }
    }

    private static void doublesToAtMost120() {
        says("TIMEOUT doubles, to at most 120; the TIMER is set to NOW + TIMEOUT");
        SubflowBundle x = openUnmeasured(1);
        rings(x, 64, 120, 120, 120);

        SubflowBundle y = openUnmeasured(1);
        roundTrip(y, 10, 10);
        measured(y, 160, 60);
        rings(y, 60, 120, 120);

        // After S = 160, V = 40: V = 30 + R - 20 and S = 140 + R.
        SubflowBundle below = openUnmeasured(1);
        roundTrip(below, 10, 10);
        roundTrip(below, 14, 14);
        measured(below, 168, 59);
        rings(below, 59, 118, 120, 120);

        SubflowBundle above = openUnmeasured(1);
        roundTrip(above, 10, 10);
        roundTrip(above, 15, 15);
        measured(above, 170, 61);
        rings(above, 61, 120, 120);
    }

    private static void openBecomesStale() {
        says("an OPEN path becomes STALE");
        SubflowBundle x = new SubflowBundle(4, 16, 0);
        x.open(0, 1, FOREIGN);
        x.lose(0, false, 0);
        x.pass(16);
        due("OPENING stays", x.state(0), OPENING);
        x.pass(2);
        due("open", x.state(0), OPEN);
        x.delay(0, 0);
        x.write(1, 0);
        x.pass(33);
        due("stale", x.state(0), STALE);
        ticks(x, 64);
        due("sent", x.sent(0), 5);
        due("STALE stays", x.state(0), STALE);
    }

    private static void becomesOpenAgain() {
        says("the path becomes OPEN (from OPENING, STALE or OPEN)");
        SubflowBundle x = opened(1, 16, 1);
        x.write(2, 0);
        x.pass(1);
        x.lose(0, false, 0);
        x.pass(6);
        due("stale at tick 9", x.state(0), STALE);
        due("timeout", x.timeout(0), 12);
        x.pass(1);
        due("stale", x.state(0), STALE);
        x.pass(1);
        due("open at tick 11", x.state(0), OPEN);
        x.write(1, 0);
        x.pass(3);
        due("open stays", x.state(0), OPEN);
    }

    private static void leastNumbersSentAgain() {
        says("the unacknowledged segment of the path with the least numbers is sent again");
        SubflowBundle x = opened(1, 16, 1);
        x.write(3, 0);
        x.pass(1);
        x.lose(0, false, 2);
        x.lose(0, false, 1);
        x.lose(0, false, 0);
        x.pass(6);
        due("one alone", x.flight(0, false), 1);
        dataSays(x, 0, 0, 1, 1, 0, 0);
        due("one more", x.sent(0), 5);
        // It is acknowledged at 11, which sets the timer to 11 + 12.
        x.pass(13);
        due("not yet", x.flight(0, false), 0);
        x.pass(1);
        due("then the next", x.flight(0, false), 1);
        dataSays(x, 0, 0, 1, 2, 1, 0);
    }

    // Loose units.

    private static void looseUnits() {
        looseInStream();
        looseNotBelowAcknowledged();
        looseInNoAcknowledgedSegment();
        looseInNoneOfItsOwn();
        looseInNoneOfAnOpenPath();
    }

    private static void looseInStream() {
        says("A unit is LOOSE when it is in the stream");
        SubflowBundle x = opened(7, 16, 1);
        x.pass(5);
        due("nothing", x.sent(0), 1);
        x.write(1, 0);
        due("not before A sends", x.sent(0), 1);
        x.pass(1);
        due("unit 0 alone", x.unacked(0), 1);
        x.pass(9);
        due("nothing more", x.sent(0), 2);
        x.finish();
        x.pass(1);
        due("the END", x.sent(0), 3);
        dataSays(x, 0, 0, 1, 2, 1, 1);
        x.pass(9);
        due("nothing behind the END", x.sent(0), 3);
    }

    /** Path 0 has units 0, 1, 2 and path 1 unit 3; B has all but 2, and A knows that by path 1 alone. */
    private static SubflowBundle knownByPathOne() {
        SubflowBundle x = opened(1, 16, 2);
        openMore(x, 1, 2);
        x.write(4, 0);
        x.pass(1);
        due("on path 0", x.unacked(0), 3);
        due("on path 1", x.unacked(1), 1);
        x.lose(0, false, 2);
        x.pass(2);
        x.lose(0, true, 1);
        x.lose(0, true, 0);
        ackSays(x, 1, 0, 2, 2, 16);
        x.pass(2);
        due("ACKNOWLEDGED", x.acknowledged(), 2);
        return x;
    }

    private static void looseNotBelowAcknowledged() {
        says("not below ACKNOWLEDGED");
        SubflowBundle x = knownByPathOne();
        x.close(0);
        x.pass(1);
        due("units 0 and 1 are below, unit 2 is not", x.reinjected(), 1);
        due("one segment", x.flight(1, false), 1);
        dataSays(x, 1, 0, 1, 2, 2, 0);
        x.pass(4);
        due("all", x.acknowledged(), 4);
    }

    private static void looseInNoAcknowledgedSegment() {
        says("in no segment that was acknowledged on whatever path");
        SubflowBundle x = knownByPathOne();
        openMore(x, 2, 1);
        x.close(1);
        x.close(0);
        x.pass(1);
        due("unit 3 was acknowledged on a path that is closed by now", x.reinjected(), 1);
        due("one segment", x.flight(2, false), 1);
        dataSays(x, 2, 0, 1, 1, 2, 0);
    }

    private static void looseInNoneOfItsOwn() {
        says("in no unacknowledged segment of p");
        SubflowBundle x = opened(4, 16, 1);
        x.delay(0, 0);
        x.write(2, 0);
        x.pass(7);
        due("stale", x.state(0), STALE);
        ticks(x, 100);
        due("no second segment of the same units", x.unacked(0), 2);
        due("reinjected", x.reinjected(), 0);
    }

    private static void looseInNoneOfAnOpenPath() {
        says("and in no unacknowledged segment of an OPEN path");
        SubflowBundle x = opened(4, 16, 1);
        openMore(x, 1, 2);
        openMore(x, 2, 3);
        x.delay(0, 0);
        x.delay(1, 0);
        x.write(2, 0);
        x.pass(6);
        due("path 0 is open and has them", x.unacked(0), 2);
        due("path 1 has none", x.unacked(1), 0);
        x.pass(1);
        due("path 0 is stale", x.state(0), STALE);
        due("so path 1 has them", x.unacked(1), 2);
        due("and path 2 has none, for path 1 is open", x.unacked(2), 0);
        x.pass(5);
        due("path 0 has them still", x.unacked(0), 2);
        due("counted once", x.reinjected(), 2);
    }

    // Sending.

    private static void sending() {
        staleOnlyWhenNoneOpen();
        fewerThanThree();
        leastSmoothFirst();
        withoutMeasureLast();
        alikeLowerNumberFirst();
        firstThatCan();
        belowEdge();
        asLongAsLoose();
        probeAlone();
        noProbeUnlessAcknowledged();
        noProbeWithUnacknowledged();
        countsAtOnce();
    }

    private static void staleOnlyWhenNoneOpen() {
        says("if some path is OPEN, the OPEN paths are candidates, otherwise the STALE ones");
        SubflowBundle x = opened(4, 16, 1);
        openMore(x, 1, 2);
        x.delay(0, 0);
        x.write(1, 0);
        x.pass(7);
        due("stale", x.state(0), STALE);
        x.pass(5);
        due("known by path 1", x.acknowledged(), 1);
        x.write(1, 0);
        x.pass(1);
        due("not on the stale one, though its S is less", x.unacked(0), 1);
        due("on the open one", x.unacked(1), 1);
        x.close(1);
        x.pass(1);
        due("none open: on the stale one", x.unacked(0), 2);
        x.open(2, 40, TOKEN);
        x.write(1, 0);
        x.pass(1);
        due("an OPENING one is no candidate", x.unacked(2), 1);
        due("nor is the stale one kept from it", x.unacked(0), 3);

        SubflowBundle y = new SubflowBundle(4, 16, 0);
        y.write(3, 0);
        y.open(0, 40, FOREIGN);
        y.pass(60);
        due("OPENING gets no DATA", y.unacked(0), 1);
    }

    private static void fewerThanThree() {
        says("Those of them that have fewer than 3 unacknowledged segments");
        SubflowBundle x = opened(1, 16, 4);
        x.write(2, 0);
        x.pass(1);
        due("two", x.unacked(0), 2);
        x.write(1, 0);
        x.pass(1);
        due("a third", x.unacked(0), 3);
        x.write(1, 0);
        x.pass(1);
        due("no fourth", x.unacked(0), 3);
        x.pass(5);
        due("still none at tick 16", x.sent(0), 4);
        x.pass(1);
        due("two were acknowledged at tick 17", x.unacked(0), 2);
        due("so the fourth was sent", x.sent(0), 5);
    }

    private static void leastSmoothFirst() {
        says("are gone through by S, least first");
        SubflowBundle x = opened(1, 56, 3);
        openMore(x, 1, 1);
        openMore(x, 2, 2);
        x.write(8, 0);
        x.pass(1);
        due("S 16", x.word(1, false, 0, 2), 0);
        due("three", x.unacked(1), 3);
        due("S 32", x.word(2, false, 0, 2), 3);
        due("three", x.unacked(2), 3);
        due("S 48", x.word(0, false, 0, 2), 6);
        due("the rest", x.unacked(0), 2);

        // S 48 on path 0 and 49 on path 1: one more is enough.
        SubflowBundle y = opened(1, 56, 3);
        roundTrip(y, 3, 4);
        due("S", y.smooth(0), 49);
        openMore(y, 1, 3);
        due("S", y.smooth(1), 48);
        y.write(1, 0);
        y.pass(1);
        due("on path 1", y.unacked(1), 1);
        due("not on path 0", y.unacked(0), 0);
    }

    private static void withoutMeasureLast() {
        says("those without a MEASURE last");
        SubflowBundle x = new SubflowBundle(1, 56, 0);
        x.open(0, 1, FOREIGN);
        x.lose(0, false, 0);
        x.pass(18);
        due("open", x.state(0), OPEN);
        due("no measure", x.smooth(0), NONE);
        openMore(x, 1, 8);
        due("S", x.smooth(1), 128);
        x.write(4, 0);
        x.pass(1);
        due("path 1 first", x.unacked(1), 3);
        due("then path 0", x.unacked(0), 1);

        SubflowBundle y = opened(1, 56, 8);
        y.open(1, 1, TOKEN);
        y.lose(1, false, 0);
        y.pass(18);
        due("open", y.state(1), OPEN);
        due("no measure", y.smooth(1), NONE);
        y.write(4, 0);
        y.pass(1);
        due("path 0 first", y.unacked(0), 3);
        due("then path 1", y.unacked(1), 1);
    }

    private static void alikeLowerNumberFirst() {
        says("alike: the one with the lower number first");
        SubflowBundle x = new SubflowBundle(1, 56, 0);
        x.open(3, 2, FOREIGN);
        x.pass(4);
        openMore(x, 1, 2);
        openMore(x, 2, 2);
        x.write(7, 0);
        x.pass(1);
        due("path 1", x.word(1, false, 0, 2), 0);
        due("path 2", x.word(2, false, 0, 2), 3);
        due("path 3", x.word(3, false, 0, 2), 6);

        // Alike too: no MEASURE on both.
        SubflowBundle y = new SubflowBundle(1, 56, 0);
        y.open(1, 1, FOREIGN);
        y.lose(1, false, 0);
        y.pass(18);
        y.open(0, 1, TOKEN);
        y.lose(0, false, 0);
        y.pass(18);
        due("no measure", y.smooth(0) + y.smooth(1), NONE + NONE);
        y.write(4, 0);
        y.pass(1);
        due("path 0", y.word(0, false, 0, 2), 0);
        due("path 1", y.word(1, false, 0, 2), 3);
    }

    private static void firstThatCan() {
        says("and the first one that CAN gets a segment");
        SubflowBundle x = opened(4, 16, 1);
        openMore(x, 1, 2);
        x.delay(0, 0);
        x.delay(1, 0);
        x.write(1, 0);
        x.pass(7);
        due("path 0 is stale", x.state(0), STALE);
        due("path 1 has unit 0 too", x.reinjected(), 1);
        x.pass(12);
        due("path 1 is stale", x.state(1), STALE);
        due("both have it: none can", x.reinjected(), 1);
        x.write(1, 1);
        x.pass(1);
        due("path 0 gets unit 1", x.unacked(0), 2);
        due("then path 0, whose S is less, can not, and path 1 can", x.unacked(1), 2);
        due("counted", x.reinjected(), 2);
    }

    private static void belowEdge() {
        says("there is a unit loose for p and the least one, u, is below EDGE");
        SubflowBundle x = opened(3, 4, 1);
        x.write(10, 0);
        x.pass(1);
        due("units 0 to 3", x.unacked(0), 4);
        due("two segments", x.flight(0, false), 2);
        dataSays(x, 0, 0, 3, 1, 0, 0);
        dataSays(x, 0, 1, 1, 4, 3, 0);

        SubflowBundle y = opened(1, 5, 1);
        y.write(10, 0);
        y.pass(3);
        due("units 0 to 2 are known, 3 and 4 are sent", y.unacked(0), 2);
        due("unit 5 is EDGE", y.sent(0), 6);
    }

    private static void asLongAsLoose() {
        says("the segment bears u and the units after it as long as they are loose for p and below EDGE, at most MSS");
        SubflowBundle x = opened(4, 16, 4);
        openMore(x, 1, 5);
        for (int i = 0; i < 3; i++) {
            x.write(1, i);
            x.pass(1);
        }
        x.write(1, 3);
        x.pass(1);
        due("unit 3 on path 1", x.word(1, false, 0, 2), 3);
        x.write(6, 4);
        x.close(0);
        x.pass(1);
        due("three there", x.flight(1, false), 3);
        dataSays(x, 1, 1, 3, 2, 0, 0);
        dataSays(x, 1, 2, 4, 5, 4, 0);
    }

    private static void probeAlone() {
        says("Or when u is EDGE and ACKNOWLEDGED both: it bears u alone");
        SubflowBundle x = opened(7, 4, 1);
        x.write(20, 0);
        x.pass(3);
        due("known", x.acknowledged(), 4);
        due("one copy", x.flight(0, false), 1);
        dataSays(x, 0, 0, 1, 5, 4, 0);
        x.pass(2);
        due("not taken, no second one", x.unacked(0), 1);
        due("sent", x.sent(0), 3);
        due("a byte", x.read(), 0);
        x.pass(4);
        due("the same again at tick 11", x.sent(0), 4);
        x.pass(2);
        due("known", x.acknowledged(), 5);
        dataSays(x, 0, 0, 1, 6, 5, 0);
    }

    private static void noProbeUnlessAcknowledged() {
        says("u is EDGE and ACKNOWLEDGED both: not when u is EDGE alone");
        SubflowBundle x = opened(4, 4, 2);
        openMore(x, 1, 3);
        x.write(6, 0);
        x.pass(1);
        due("path 0 has all below EDGE", x.unacked(0), 4);
        due("path 1, which has none, gets no unit 4", x.unacked(1), 0);
        x.pass(3);
        due("not before it is known", x.sent(0) + x.sent(1), 3);
        x.pass(1);
        due("known", x.acknowledged(), 4);
        due("path 0 gets it", x.unacked(0), 1);
        due("path 1 does not get it too", x.unacked(1), 0);
    }

    private static void noProbeWithUnacknowledged() {
        says("and p has no unacknowledged segment");
        SubflowBundle x = opened(4, 4, 2);
        x.open(1, 3, TOKEN);
        x.twice(1, false, 0, 11);
        x.pass(6);
        x.write(5, 0);
        x.pass(3);
        x.lose(0, true, 0);
        // The late SYN of path 1 is answered at tick 15 with what path 0 brought.
        x.pass(5);
        due("known by path 1", x.acknowledged(), 4);
        due("path 0, which is quicker, waits for its own ACK", x.unacked(0), 4);
        due("so path 1 gets unit 4", x.unacked(1), 1);
        dataSays(x, 1, 0, 1, 1, 4, 0);
    }

    private static void countsAtOnce() {
        says("Each segment sent counts at once for the next");
        SubflowBundle x = opened(7, 56, 1);
        openMore(x, 1, 2);
        openMore(x, 2, 3);
        openMore(x, 3, 4);
        x.write(400, 0);
        x.pass(1);
        due("all below EDGE 56 at once", x.unacked(0) + x.unacked(1) + x.unacked(2) + x.unacked(3), 56);
        due("three on path 0", x.unacked(0), 21);
        due("three on path 1", x.unacked(1), 21);
        due("two on path 2", x.unacked(2), 14);
        due("none twice", x.reinjected(), 0);

        SubflowBundle y = opened(1, 56, 1);
        openMore(y, 1, 2);
        openMore(y, 2, 3);
        openMore(y, 3, 4);
        y.write(400, 0);
        y.pass(1);
        due("three on each", y.unacked(0) + y.unacked(1) + y.unacked(2) + y.unacked(3), 12);
    }
}
