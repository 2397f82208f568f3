import java.lang.reflect.InvocationTargetException;
import java.lang.reflect.Method;
import java.util.Arrays;
import java.util.function.IntUnaryOperator;

/**
 * What "Terms" says of all calls ("Asked, nothing stays changed. Where there can be not so many, a number below 0 is
 * one too many."), and promise 43: what is refused is counted, each call once, by its kind.
 */
final class EdgeFaceTest {
    private static final int LEAST = Integer.MIN_VALUE;
    private static final int GREATEST = Integer.MAX_VALUE;
    private static final String TELLING = " feed add ask find remove repack ";

    public static void main(String[] args) throws Exception {
        for (Method method : EarlyAnswers.class.getMethods()) {
            if (method.getDeclaringClass() == EarlyAnswers.class && !TELLING.contains(" " + method.getName() + " ")) {
                nothingStaysChanged(method);
            }
        }
        belowZeroIsNone();
        belowZeroIsRefused();
        refusedAsMissing();
        refusedAsIllegal();
        missingAheadOfIllegal();
        notRefused();
        status();
        calls512();
        Tester.end("edges of the face");
    }

    /** By 3: a 0 1 2, 3; b 0 1; c 2 3; d 1; 1 is GONE, bytes are on the TAPE, the latest text had a FAULT. */
    private static Tester filled(String name) {
        Tester t = Tester.with(name, "a b", "a b d b", "a c a", "c a");
        t.x.repack(3);
        t.x.remove(1);
        t.ask("b^2 a \"a b\" -d ~3");
        t.add("e!");
        t.feed("a");
        return t;
    }

    /** All of the state that can be seen by few calls. */
    private static String seen(Tester t) {
        StringBuilder seen = new StringBuilder();
        for (int i = 0; i < 10; i++) {
            seen.append(t.x.told(i)).append(' ');
        }
        seen.append(t.x.fault()).append(' ');
        for (int i = 0; i < 4; i++) {
            seen.append(t.x.why(i)).append(t.x.score(i)).append(' ').append(t.x.place(i)).append(t.x.document(i, 2))
                .append(t.x.at(i, 1)).append(' ').append(t.x.word(i, 0)).append(t.x.letter(i, 0))
                .append(t.x.scored(i, 1)).append(t.x.scored(i, 2)).append(t.x.early(i + 1, 4)).append(' ');
        }
        return seen.toString();
    }

    /** "Asked, nothing stays changed.": by numbers that are fine, and by those that are refused. */
    private static void nothingStaysChanged(Method method) throws Exception {
        Tester t = filled("asked " + method.getName());
        String before = seen(t);
        String first = "";
        for (int number : new int[] {0, 1, 2, 3, 10, 11, -1, 64, GREATEST, LEAST}) {
            first += call(t, method, number);
        }
        t.row("as before " + before, "1", () -> seen(t).equals(before) ? 1 : 0);
        String again = "";
        for (int number : new int[] {0, 1, 2, 3, 10, 11, -1, 64, GREATEST, LEAST}) {
            again += call(t, method, number);
        }
        // refused calls are counted, so only status may answer otherwise
        t.due("the same answers", again.equals(first) || method.getName().equals("status") ? 1 : 0, 1);
        t.due("the tape stays: its a, no b", t.x.find(1), 0);
    }

    private static String call(Tester t, Method method, int number) throws Exception {
        Object[] numbers = new Object[method.getParameterCount()];
        Arrays.fill(numbers, number);
        try {
            return method.invoke(t.x, numbers) + " ";
        } catch (InvocationTargetException e) {
            return e.getCause().getClass().getSimpleName() + " ";
        }
    }

    /** "Where there can be not so many, a number below 0 is one too many": where one too many is NONE. */
    private static void belowZeroIsNone() {
        Tester t = filled("below 0: NONE");
        IntUnaryOperator[] calls = {n -> t.x.at(0, n), n -> t.x.letter(0, n), n -> t.x.position(0, 0, n),
            n -> t.x.scored(n, 0), n -> t.x.best(1, n), n -> t.x.points(0, n), n -> t.x.phrase(0, n),
            n -> t.x.without(1, n)};
        for (int i = 0; i < calls.length; i++) {
            t.each("call " + i, "-1 -1 -1 -1", calls[i], -1, -2, LEAST, GREATEST);
        }
        t.row("not refused", "0 0", () -> t.x.status(0), () -> t.x.status(1));
    }

    /** .. and where one too many is refused. */
    private static void belowZeroIsRefused() {
        Tester t = filled("below 0: refused");
        IntUnaryOperator[] calls = {n -> t.x.common(n), n -> t.x.answer(n, 0), n -> t.x.block(0, n, 0),
            n -> t.x.posting(0, n, 0), n -> t.x.position(0, n, 0), n -> t.x.inside(0, n), n -> t.x.opened(1, n, 0),
            n -> t.x.opened(1, 0, n), n -> t.x.depth(n, 0), n -> t.x.depth(0, n)};
        for (int i = 0; i < calls.length; i++) {
            t.each("call " + i, "missing missing missing missing", calls[i], -1, -2, LEAST, GREATEST);
        }
        t.row("refused", "40 0", () -> t.x.status(0), () -> t.x.status(1));
    }

    /** Each of the calls that refuse as NoSuchElementException: counted once, as 0. */
    private static void refusedAsMissing() {
        Tester t = filled("43 NoSuchElementException");
        t.missing("remove", () -> t.x.remove(4));
        t.missing("remove, gone", () -> t.x.remove(1));
        t.missing("document", () -> t.x.document(4, 0));
        t.missing("at", () -> t.x.at(4, 0));
        t.missing("word", () -> t.x.word(4, 0));
        t.missing("letter", () -> t.x.letter(4, 0));
        t.missing("block: word", () -> t.x.block(4, 0, 0));
        t.missing("block", () -> t.x.block(0, 2, 0));
        t.missing("posting: word", () -> t.x.posting(4, 0, 0));
        t.missing("posting", () -> t.x.posting(0, 4, 0));
        t.missing("position: word", () -> t.x.position(4, 0, 0));
        t.missing("position", () -> t.x.position(0, 4, 0));
        t.missing("common", () -> t.x.common(4));
        t.missing("alike", () -> t.x.alike(4, 0));
        t.missing("alike, other", () -> t.x.alike(0, 4));
        t.missing("why", () -> t.x.why(4));
        t.missing("score", () -> t.x.score(4));
        t.missing("near", () -> t.x.near(4));
        t.missing("window", () -> t.x.window(4, 0));
        t.missing("answer", () -> t.x.answer(1, 0));
        t.missing("place", () -> t.x.place(4));
        t.missing("opened: scored word", () -> t.x.opened(1, 2, 0));
        t.missing("opened", () -> t.x.opened(1, 0, 1));
        t.missing("inside: word", () -> t.x.inside(4, 0));
        t.missing("inside", () -> t.x.inside(0, 2));
        t.missing("blockOf: word", () -> t.x.blockOf(4, 0));
        t.missing("blockOf: document", () -> t.x.blockOf(0, 4));
        t.missing("nearest", () -> t.x.nearest(4));
        t.missing("rarest", () -> t.x.rarest(4));
        t.missing("points", () -> t.x.points(4, 0));
        t.missing("phrase", () -> t.x.phrase(4, 0));
        t.missing("depth: scored word", () -> t.x.depth(2, 0));
        t.missing("depth", () -> t.x.depth(0, 1));
        t.row("all together", "33 0", () -> t.x.status(0), () -> t.x.status(1));
    }

    /** Each of the calls that refuse as IllegalArgumentException: counted once, as 1. */
    private static void refusedAsIllegal() {
        Tester t = filled("43 IllegalArgumentException");
        t.illegal("add", () -> t.x.add(21));
        t.illegal("ask", () -> t.x.ask(21));
        t.illegal("find", () -> t.x.find(21));
        t.illegal("repack", () -> t.x.repack(9));
        t.illegal("told", () -> t.x.told(10));
        t.illegal("document", () -> t.x.document(0, 5));
        t.illegal("word", () -> t.x.word(0, 7));
        t.illegal("block", () -> t.x.block(0, 0, 8));
        t.illegal("posting", () -> t.x.posting(0, 0, 4));
        t.illegal("scored", () -> t.x.scored(0, 4));
        t.illegal("window", () -> t.x.window(0, 2));
        t.illegal("answer", () -> t.x.answer(0, 2));
        t.illegal("early: k", () -> t.x.early(11, 0));
        t.illegal("early", () -> t.x.early(1, 9));
        t.illegal("best", () -> t.x.best(11, 0));
        t.illegal("opened", () -> t.x.opened(11, 0, 0));
        t.illegal("bits", () -> t.x.bits(9));
        t.illegal("swift: k", () -> t.x.swift(11, 0));
        t.illegal("swift", () -> t.x.swift(1, 2));
        t.illegal("spread", () -> t.x.spread(65));
        t.illegal("without", () -> t.x.without(11, 0));
        t.row("all together", "0 21", () -> t.x.status(0), () -> t.x.status(1));
    }

    /** "(so below, ahead of others)": what is wrong twice is counted once, as NoSuchElementException. */
    private static void missingAheadOfIllegal() {
        Tester t = filled("7 ahead of others");
        t.missing("document", () -> t.x.document(4, 5));
        t.missing("word", () -> t.x.word(4, 7));
        t.missing("block: word", () -> t.x.block(4, 0, 8));
        t.missing("block", () -> t.x.block(0, 2, 8));
        t.missing("posting: word", () -> t.x.posting(4, 0, 4));
        t.missing("posting", () -> t.x.posting(0, 4, 4));
        t.missing("window", () -> t.x.window(4, 2));
        t.missing("answer", () -> t.x.answer(1, 2));
        t.missing("opened: scored word", () -> t.x.opened(0, 2, 0));
        t.missing("opened", () -> t.x.opened(11, 0, 1));
        // .. and ahead of NONE
        t.missing("at", () -> t.x.at(4, -1));
        t.missing("letter", () -> t.x.letter(4, -1));
        t.missing("position", () -> t.x.position(0, 4, -1));
        t.missing("points", () -> t.x.points(4, -1));
        t.missing("phrase", () -> t.x.phrase(4, -1));
        t.illegal("scored", () -> t.x.scored(-1, 4));
        t.illegal("best", () -> t.x.best(0, -1));
        t.illegal("without", () -> t.x.without(0, -1));
        t.row("all together", "15 3", () -> t.x.status(0), () -> t.x.status(1));
    }

    /** FAULTS and NONE are answers: nothing is refused. */
    private static void notRefused() {
        Tester t = filled("43 not refused");
        t.row("none", "-9 -9 -1 -1 -1 -1 -1 0 -1", () -> t.x.add(0), () -> t.x.ask(0), () -> t.x.find(0),
            () -> t.x.at(0, 9), () -> t.x.blockOf(2, 0), () -> t.x.place(1), () -> t.x.scored(9, 0),
            () -> t.x.spread(64), () -> t.x.status(2));
        for (int i = 0; i < 15; i++) {
            t.x.feed(0, 0, 0, 0, 0);
        }
        t.due("feed beyond 300", t.x.feed(0, 0, 0, 0, 0), -1);
        t.row("none is refused", "0 0", () -> t.x.status(0), () -> t.x.status(1));
    }

    /** "0 NoSuchElementException, 1 IllegalArgumentException; NONE for others." */
    private static void status() {
        Tester t = new Tester("43 status");
        t.each("of a new object", "-1 -1 0 0 -1 -1", t.x::status, LEAST, -1, 0, 1, 2, GREATEST);
        for (int i = 0; i < 200; i++) {
            t.row("refused", "missing", () -> t.x.remove(0));
            t.row("refused", "illegal", () -> t.x.repack(9));
        }
        t.each("counted", "-1 200 200 -1", t.x::status, -1, 0, 1, 2);
        t.each("counted by asking", "-1 200 200 -1", t.x::status, -1, 0, 1, 2);
    }

    /** "An object is used for at most 512 calls": the last of these answers as the first one does. */
    private static void calls512() {
        Tester t = new Tester("512 calls");
        t.x.feed(0x61206200, 0, 0, 0, 0);
        t.due("add", t.x.add(3), 0);
        t.x.feed(0x62200000, 0, 0, 0, 0);
        t.due("ask", t.x.ask(2), 1);
        for (int call = 5; call < 512; call += 2) {
            t.due("answer", t.x.answer(0, 1), 500);
            t.due("early", t.x.early(10, 2), 2);
        }
    }
}
