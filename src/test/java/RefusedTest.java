import java.util.ArrayList;
import java.util.List;
import java.util.function.Supplier;
import java.util.function.ToIntFunction;

/**
 * 'A call that answers false changes nothing', and neither does one that answers NONE or 0 because
 * of its arguments: each is made on one of two objects with the same past, which must then look
 * alike and go on alike. And no call throws, whatever its arguments and the state.
 */
public final class RefusedTest {
    private static final int NONE = -1;
    private static final int OVER = -2;
    private static final int MIN = Integer.MIN_VALUE;
    private static final int MAX = Integer.MAX_VALUE;
    private static final int[] NO_PATH = {-1, 4, MIN, MAX};
    private static final int TOKEN = 1234563;
    private static final int FOREIGN = 7;
    private static final List<Scene> SCENES = scenes();
    private static int wrong = 0;

    public static void main(String[] args) {
        scenesAreAsNamed();
        openRefused();
        closeRefused();
        writeRefused();
        finishRefused();
        readRefused();
        passRefused();
        delayRefused();
        loseRefused();
        twiceRefused();
        looking();
        anyArgumentsInAnyState();
        manyCalls();
        System.out.println(wrong == 0 ? "refused calls change nothing" : wrong + " faults");
        if (wrong != 0) {
            System.exit(1);
        }
    }

    private static void fault(String text) {
        wrong++;
        if (wrong <= 50) {
            System.out.println(text);
        }
    }

    /** A past that can be had as often as one likes. Path 3 is NEW in each of them. */
    private record Scene(String name, Supplier<SubflowBundle> past) {
    }

    private static List<Scene> scenes() {
        List<Scene> all = new ArrayList<>();
        all.add(new Scene("new", RefusedTest::made));
        all.add(new Scene("written", RefusedTest::written));
        all.add(new Scene("opening", RefusedTest::opening));
        all.add(new Scene("opening, ACK under way", RefusedTest::ackUnderWay));
        all.add(new Scene("opening, cut off", RefusedTest::cutOff));
        all.add(new Scene("open", RefusedTest::open));
        all.add(new Scene("units not sent yet", RefusedTest::unsent));
        all.add(new Scene("DATA under way", RefusedTest::dataUnderWay));
        all.add(new Scene("ACKs under way", RefusedTest::acksUnderWay));
        all.add(new Scene("stale", RefusedTest::stale));
        all.add(new Scene("closed", RefusedTest::closed));
        all.add(new Scene("refused", RefusedTest::refused));
        all.add(new Scene("to be refused", RefusedTest::toBeRefused));
        all.add(new Scene("full pipes", RefusedTest::fullPipes));
        all.add(new Scene("full stream", RefusedTest::fullStream));
        all.add(new Scene("finished", RefusedTest::finished));
        all.add(new Scene("over", RefusedTest::over));
        all.add(new Scene("probing", RefusedTest::probing));
        all.add(new Scene("three paths", RefusedTest::threePaths));
        return all;
    }

    private static SubflowBundle made() {
        return new SubflowBundle(3, 16, 0);
    }

    private static SubflowBundle written() {
        SubflowBundle x = made();
        x.write(5, 30);
        return x;
    }

    private static SubflowBundle opening() {
        SubflowBundle x = written();
        x.open(0, 3, FOREIGN);
        return x;
    }

    private static SubflowBundle ackUnderWay() {
        SubflowBundle x = opening();
        x.pass(4);
        return x;
    }

    private static SubflowBundle cutOff() {
        SubflowBundle x = opening();
        x.lose(0, false, 0);
        x.delay(0, 0);
        return x;
    }

    private static SubflowBundle open() {
        SubflowBundle x = made();
        x.open(0, 3, FOREIGN);
        x.pass(6);
        return x;
    }

    private static SubflowBundle unsent() {
        SubflowBundle x = open();
        x.write(5, 30);
        return x;
    }

    private static SubflowBundle dataUnderWay() {
        SubflowBundle x = open();
        x.write(8, 250);
        x.pass(1);
        return x;
    }

    private static SubflowBundle acksUnderWay() {
        SubflowBundle x = dataUnderWay();
        x.pass(3);
        x.read();
        return x;
    }

    private static SubflowBundle stale() {
        SubflowBundle x = open();
        x.delay(0, 0);
        x.write(4, 77);
        x.pass(20);
        x.delay(0, 2);
        return x;
    }

    private static SubflowBundle closed() {
        SubflowBundle x = acksUnderWay();
        x.close(0);
        return x;
    }

    private static SubflowBundle refused() {
        SubflowBundle x = open();
        x.open(1, 2, FOREIGN);
        x.pass(4);
        return x;
    }

    /** Path 1 is OPENING; its SYN, which bears no good token, was lost and will be sent again. */
    private static SubflowBundle toBeRefused() {
        SubflowBundle x = open();
        x.open(1, 2, FOREIGN);
        x.lose(1, false, 0);
        return x;
    }

    private static SubflowBundle fullPipes() {
        SubflowBundle x = opening();
        x.twice(0, false, 0, 2);
        x.twice(0, false, 0, 2);
        x.pass(3);
        for (int i = 0; i < 3; i++) {
            x.twice(0, true, i, 7 + i);
        }
        x.pass(2);
        for (int i = 0; i < 6; i++) {
            x.twice(0, true, 0, 9);
            x.twice(0, false, 0, 11);
        }
        return x;
    }

    private static SubflowBundle fullStream() {
        SubflowBundle x = open();
        x.write(400, 3);
        x.pass(9);
        return x;
    }

    private static SubflowBundle finished() {
        SubflowBundle x = dataUnderWay();
        x.finish();
        return x;
    }

    private static SubflowBundle over() {
        SubflowBundle x = open();
        x.write(2, 5);
        x.finish();
        x.pass(8);
        x.read();
        x.read();
        return x;
    }

    private static SubflowBundle probing() {
        SubflowBundle x = new SubflowBundle(3, 4, 0);
        x.open(0, 2, FOREIGN);
        x.write(9, 1);
        x.pass(14);
        return x;
    }

    private static SubflowBundle threePaths() {
        SubflowBundle x = open();
        x.open(1, 2, TOKEN);
        x.pass(4);
        x.open(2, 1, TOKEN);
        x.pass(1);
        x.write(20, 9);
        x.pass(2);
        x.delay(1, 0);
        x.pass(1);
        return x;
    }

    private static void scenesAreAsNamed() {
        is("new", x -> x.state(0), 0);
        is("opening", x -> x.state(0), 1);
        is("opening", x -> x.flight(0, false), 1);
        is("opening, ACK under way", x -> x.state(0), 1);
        is("opening, ACK under way", x -> x.flight(0, true), 1);
        is("opening, cut off", x -> x.state(0), 1);
        is("opening, cut off", x -> x.flight(0, false), 0);
        is("open", x -> x.state(0), 2);
        is("units not sent yet", x -> x.state(0), 2);
        is("units not sent yet", x -> x.sent(0), 1);
        is("DATA under way", x -> x.flight(0, false), 3);
        is("ACKs under way", x -> x.flight(0, true), 3);
        is("stale", x -> x.state(0), 3);
        is("closed", x -> x.state(0), 4);
        is("refused", x -> x.state(1), 4);
        is("to be refused", x -> x.state(1), 1);
        is("full pipes", x -> x.flight(0, false), 6);
        is("full pipes", x -> x.flight(0, true), 6);
        is("full stream", x -> x.write(1, 0), 0);
        is("finished", x -> number(x.finish()), 0);
        is("over", SubflowBundle::read, OVER);
        is("probing", x -> x.unacked(0), 1);
        is("probing", x -> x.acknowledged(), 4);
        is("three paths", x -> number(x.state(0) == 2 && x.state(1) == 2 && x.state(2) == 2), 1);
        for (Scene scene : SCENES) {
            is(scene.name(), x -> x.state(3), 0);
        }
    }

    private static void is(String name, ToIntFunction<SubflowBundle> call, int want) {
        int got = call.applyAsInt(scene(name).past().get());
        if (got != want) {
            fault("the scene '" + name + "' is not as named: " + got + ", due is " + want);
        }
    }

    /** All that the face tells of an object, without changing it. */
    private static String view(SubflowBundle x) {
        StringBuilder told = new StringBuilder();
        for (int p = 0; p < 4; p++) {
            told.append("path ").append(p).append(':');
            int[] numbers = {x.state(p), x.smooth(p), x.timeout(p), x.unacked(p), x.sent(p)};
            for (int n : numbers) {
                told.append(' ').append(n);
            }
            viewPipe(told, x, p, false);
            viewPipe(told, x, p, true);
            told.append('\n');
        }
        told.append(x.acknowledged()).append(' ').append(x.received()).append(' ');
        told.append(x.reinjected()).append(' ').append(x.token());
        return told.toString();
    }

    private static void viewPipe(StringBuilder told, SubflowBundle x, int p, boolean back) {
        int size = x.flight(p, back);
        told.append(back ? " back " : " forward ").append(size);
        for (int k = 0; k < size; k++) {
            told.append(" [");
            for (int i = 0; i < 4; i++) {
                told.append(' ').append(x.word(p, back, k, i));
            }
            told.append(" ]");
        }
    }

    /** What an object answers from here on: by that what can not be looked at shows too. */
    private static String future(SubflowBundle x) {
        StringBuilder told = new StringBuilder();
        for (int i = 0; i < 25; i++) {
            told.append(x.pass(1)).append(' ');
        }
        told.append(x.read()).append(' ').append(x.read()).append(' ');
        told.append(x.write(7, 90)).append(' ').append(x.open(3, 5, TOKEN)).append(' ');
        for (int i = 0; i < 12; i++) {
            told.append(x.pass(1)).append(' ');
        }
        told.append(view(x)).append('\n');
        told.append(x.finish()).append(' ').append(x.pass(60)).append(' ').append(x.pass(60)).append(' ');
        for (int i = 0; i < 40; i++) {
            told.append(x.read()).append(' ');
        }
        told.append(x.pass(40)).append(' ').append(x.read()).append('\n').append(view(x));
        return told.toString();
    }

    /** The call answers that, and leaves no trace. */
    private static void leavesNoTrace(String call, Scene scene, ToIntFunction<SubflowBundle> made, int want) {
        SubflowBundle x = scene.past().get();
        SubflowBundle untouched = scene.past().get();
        String what = call + " in the scene '" + scene.name() + "'";
        int got = made.applyAsInt(x);
        if (got != want) {
            fault(what + " answered " + got + ", due is " + want);
        }
        String seen = view(x);
        String due = view(untouched);
        if (!seen.equals(due)) {
            fault(what + " left\n" + seen + "\ndue is\n" + due);
        }
        seen = future(x);
        due = future(untouched);
        if (!seen.equals(due)) {
            fault(what + " went on\n" + seen + "\ndue is\n" + due);
        }
    }

    private static int number(boolean answer) {
        return answer ? 1 : 0;
    }

    private static boolean isIn(Scene scene, int p, int... states) {
        int state = scene.past().get().state(p);
        for (int s : states) {
            if (s == state) {
                return true;
            }
        }
        return false;
    }

    private static void openRefused() {
        int[] noDelay = {0, 41, -1, MIN, MAX};
        for (Scene scene : SCENES) {
            for (int p : NO_PATH) {
                leavesNoTrace("open of no path", scene, x -> number(x.open(p, 3, TOKEN)), 0);
            }
            for (int d : noDelay) {
                leavesNoTrace("open with the delay " + d, scene, x -> number(x.open(3, d, TOKEN)), 0);
            }
            for (int p = 0; p < 3; p++) {
                int q = p;
                if (!isIn(scene, p, 0)) {
                    leavesNoTrace("open of what is not NEW", scene, x -> number(x.open(q, 9, TOKEN)), 0);
                }
            }
        }
        leavesNoTrace("open while one is OPENING", scene("opening"), x -> number(x.open(3, 9, TOKEN)), 0);
        leavesNoTrace("open while one is OPENING", scene("opening, ACK under way"),
            x -> number(x.open(1, 1, TOKEN)), 0);
        leavesNoTrace("open while one is OPENING", scene("opening, cut off"), x -> number(x.open(1, 1, TOKEN)), 0);
    }

    private static Scene scene(String name) {
        for (Scene scene : SCENES) {
            if (scene.name().equals(name)) {
                return scene;
            }
        }
        throw new IllegalStateException("no scene " + name);
    }

    private static void closeRefused() {
        for (Scene scene : SCENES) {
            for (int p : NO_PATH) {
                leavesNoTrace("close of no path", scene, x -> number(x.close(p)), 0);
            }
            leavesNoTrace("close of a NEW path", scene, x -> number(x.close(3)), 0);
        }
        leavesNoTrace("close of a CLOSED path", scene("closed"), x -> number(x.close(0)), 0);
        leavesNoTrace("close of a refused path", scene("refused"), x -> number(x.close(1)), 0);
    }

    private static void writeRefused() {
        int[] tooFew = {0, -1, MIN};
        for (Scene scene : SCENES) {
            for (int n : tooFew) {
                leavesNoTrace("write of " + n, scene, x -> x.write(n, 1), 0);
            }
        }
        int[] some = {1, 400, MAX};
        for (int n : some) {
            leavesNoTrace("write when finished", scene("finished"), x -> x.write(n, 1), 0);
            leavesNoTrace("write when over", scene("over"), x -> x.write(n, 1), 0);
            leavesNoTrace("write when full", scene("full stream"), x -> x.write(n, 1), 0);
        }
    }

    private static void finishRefused() {
        leavesNoTrace("finish when finished", scene("finished"), x -> number(x.finish()), 0);
        leavesNoTrace("finish when over", scene("over"), x -> number(x.finish()), 0);
    }

    private static void readRefused() {
        String[] empty = {"new", "written", "opening", "open", "DATA under way", "stale"};
        for (String name : empty) {
            leavesNoTrace("read of nothing", scene(name), SubflowBundle::read, NONE);
        }
        leavesNoTrace("read of the END", scene("over"), SubflowBundle::read, OVER);
    }

    private static void passRefused() {
        int[] wrongTicks = {-1, 61, MIN, MAX};
        for (Scene scene : SCENES) {
            for (int n : wrongTicks) {
                leavesNoTrace("pass of " + n, scene, x -> x.pass(n), NONE);
            }
            leavesNoTrace("pass of 0", scene, x -> x.pass(0), 0);
        }
    }

    private static void delayRefused() {
        int[] noDelay = {-1, 41, MIN, MAX};
        for (Scene scene : SCENES) {
            for (int p : NO_PATH) {
                leavesNoTrace("delay of no path", scene, x -> number(x.delay(p, 5)), 0);
            }
            for (int d : noDelay) {
                for (int p = 0; p < 4; p++) {
                    int q = p;
                    leavesNoTrace("delay " + d, scene, x -> number(x.delay(q, d)), 0);
                }
            }
            leavesNoTrace("delay of a NEW path", scene, x -> number(x.delay(3, 5)), 0);
        }
        leavesNoTrace("delay of a CLOSED path", scene("closed"), x -> number(x.delay(0, 5)), 0);
        leavesNoTrace("delay of a CLOSED path", scene("closed"), x -> number(x.delay(0, 0)), 0);
    }

    private static void loseRefused() {
        for (Scene scene : SCENES) {
            for (int turn = 0; turn < 2; turn++) {
                boolean back = turn == 1;
                for (int p : NO_PATH) {
                    leavesNoTrace("lose on no path", scene, x -> number(x.lose(p, back, 0)), 0);
                }
                for (int p = 0; p < 4; p++) {
                    int q = p;
                    for (int k : noCopies(scene, p, back)) {
                        leavesNoTrace("lose of copy " + k, scene, x -> number(x.lose(q, back, k)), 0);
                    }
                }
            }
        }
    }

    private static int[] noCopies(Scene scene, int p, boolean back) {
        int size = scene.past().get().flight(p, back);
        return new int[] {-1, size, size + 1, MIN, MAX};
    }

    private static void twiceRefused() {
        for (Scene scene : SCENES) {
            for (int turn = 0; turn < 2; turn++) {
                boolean back = turn == 1;
                for (int p : NO_PATH) {
                    leavesNoTrace("twice on no path", scene, x -> number(x.twice(p, back, 0, 3)), 0);
                }
                for (int p = 0; p < 4; p++) {
                    twiceRefusedOn(scene, p, back);
                }
            }
        }
        for (int k = 0; k < 6; k++) {
            int copy = k;
            leavesNoTrace("twice into a full pipe", scene("full pipes"), x -> number(x.twice(0, false, copy, 3)), 0);
            leavesNoTrace("twice into a full pipe", scene("full pipes"), x -> number(x.twice(0, true, copy, 3)), 0);
        }
    }

    private static void twiceRefusedOn(Scene scene, int p, boolean back) {
        int[] tooLate = {0, -1, 41, MIN, MAX};
        for (int k : noCopies(scene, p, back)) {
            leavesNoTrace("twice of copy " + k, scene, x -> number(x.twice(p, back, k, 3)), 0);
        }
        for (int late : tooLate) {
            leavesNoTrace("twice as late as " + late, scene, x -> number(x.twice(p, back, 0, late)), 0);
        }
    }

    /** Looking changes nothing, at a path or at none. */
    private static void looking() {
        for (Scene scene : SCENES) {
            for (int p : NO_PATH) {
                leavesNoTrace("state", scene, x -> x.state(p), NONE);
                leavesNoTrace("smooth", scene, x -> x.smooth(p), NONE);
                leavesNoTrace("timeout", scene, x -> x.timeout(p), NONE);
                leavesNoTrace("unacked", scene, x -> x.unacked(p), NONE);
                leavesNoTrace("sent", scene, x -> x.sent(p), NONE);
                leavesNoTrace("flight", scene, x -> x.flight(p, false), NONE);
                leavesNoTrace("flight back", scene, x -> x.flight(p, true), NONE);
                leavesNoTrace("word", scene, x -> x.word(p, false, 0, 2), 0);
                leavesNoTrace("word back", scene, x -> x.word(p, true, 0, 2), 0);
            }
            leavesNoTrace("looking at all", scene, x -> view(x).equals(view(x)) ? 1 : 0, 1);
        }
    }

    private static void anyArgumentsInAnyState() {
        int[] any = {MIN, MIN + 1, -65536, -2, -1, 0, 1, 2, 3, 4, 5, 6, 7, 8, 39, 40, 41, 59, 60, 61, 400, 401, MAX - 1, MAX};
        for (Scene scene : SCENES) {
            try {
                for (int a : any) {
                    oneArgument(scene, a);
                    for (int b : any) {
                        moreArguments(scene, a, b, any);
                    }
                }
            } catch (RuntimeException e) {
                fault("in the scene '" + scene.name() + "' a call threw " + e);
            }
        }
        for (int a : any) {
            for (int b : any) {
                SubflowBundle x = new SubflowBundle(a, b, a ^ b);
                x.open(0, 1, b);
                x.write(400, a);
                x.pass(60);
            }
        }
    }

    private static void oneArgument(Scene scene, int a) {
        SubflowBundle x = scene.past().get();
        x.state(a);
        x.smooth(a);
        x.timeout(a);
        x.unacked(a);
        x.sent(a);
        x.flight(a, false);
        x.flight(a, true);
        x.pass(a);
        x.close(a);
        x.pass(60);
    }

    private static void moreArguments(Scene scene, int a, int b, int[] any) {
        SubflowBundle x = scene.past().get();
        x.delay(a, b);
        x.write(a, b);
        for (int c : any) {
            x.word(a, false, b, c);
            x.word(a, true, b, c);
            x.twice(a, false, b, c);
            x.twice(a, true, b, c);
        }
        x.lose(a, false, b);
        x.lose(a, true, b);
        x.open(a, b, a);
        x.pass(b);
        x.finish();
        x.read();
        x.pass(60);
    }

    /**
     * Far more than 512 calls, the dearest ones. What the later ones answer is free and not looked at;
     * but by rule 7 of LANGUAGE.md no call may throw or fail to end, in any state.
     */
    private static void manyCalls() {
        for (Scene scene : SCENES) {
            SubflowBundle x = scene.past().get();
            try {
                for (int i = 0; i < 1024; i++) {
                    x.pass(60);
                    x.read();
                    x.write(3, i);
                    x.open(i & 3, 40, TOKEN);
                    x.delay(i + 1 & 3, i % 41);
                    x.twice(i & 3, (i & 4) == 0, i % 6, 1 + i % 40);
                }
            } catch (RuntimeException e) {
                fault("in the scene '" + scene.name() + "' one of many calls threw " + e);
            }
        }
    }
}
