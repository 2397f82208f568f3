import java.util.stream.Collectors;
import java.util.stream.IntStream;

/** Promises 27 to 29, 33 and 41: EARLY, turn by turn as reckoned by hand. */
final class EarlyTest {
    public static void main(String[] args) {
        skipping();
        gone();
        seeking();
        nearness();
        ended();
        nothingAsked();
        best();
        opened();
        swift();
        depth();
        sameAsAnswers();
        Tester.end("early");
    }

    private static String early(Tester t, int k) {
        return IntStream.rangeClosed(0, 8).mapToObj(what -> Integer.toString(t.x.early(k, what)))
            .collect(Collectors.joining(" "));
    }

    private static void dueEarly(Tester t, int k, String want) {
        String got = early(t, k);
        t.row("early by " + k + " is " + got + ", due is " + want + ":", "1", () -> got.equals(want) ? 1 : 0);
    }

    /**
     * a in 12 DOCUMENTS (RARE 1; GAIN 500, then 333, at last 500), b in the first and the last (RARE 3, GAIN 500);
     * by SIZE 4 a has BLOCKS 0 to 3, 4 to 7, 8 to 11, b has one.
     */
    private static Tester twelve(String name) {
        Tester t = Tester.with(name, "a b", "a x x x", "a x x x", "a x x x", "a x x x", "a x x x", "a x x x",
            "a x x x", "a x x x", "a x x x", "a x x x", "a b");
        t.due("ask", t.ask("a b"), 2);
        return t;
    }

    private static void skipping() {
        Tester t = twelve("27 skipping");
        // the first is looked at: 2000, and no bound is above that
        dueEarly(t, 1, "1 2000 2 2 6 2 0 1 2");
        // 0, 1 (floor 333), 2, 3, a skip over the second block, 8, 9, 10, 11
        dueEarly(t, 2, "2 2000 10 3 10 11 1 8 1");
        // all of them: the floor is 0 until ten are there, 333 from then on
        dueEarly(t, 10, "10 333 13 4 14 15 0 12 0");
        t.illegal("k 0", () -> t.x.early(0, 0));
        t.illegal("k 11", () -> t.x.early(11, 0));
        t.illegal("what 9", () -> t.x.early(1, 9));
        t.illegal("what -1", () -> t.x.early(1, -1));
        t.due("nothing stays changed", t.x.told(6), 4);
    }

    private static void gone() {
        Tester t = twelve("27 gone");
        t.x.remove(0);
        // it is looked at all the same, and no match
        dueEarly(t, 1, "1 2000 10 3 10 11 1 8 1");
        t.due("best", t.x.best(1, 0), 11);
        t.x.repack(4);
        // a 1 to 4, 5 to 8, 9 to 11, b 11 (11 by 1: RARE 4); 1 looked at (floor 333), skips to 5 and to 9, then 9, 10,
        // and 11 with both
        dueEarly(t, 1, "1 2500 7 3 8 5 2 4 1");
    }

    private static void seeking() {
        Tester t = Tester.with("27 seeking", "a b", "a", "a", "a b b b");
        t.x.repack(2);
        t.ask("a b");
        // 0: 1500; 1: 500; then b is the pivot at 3, a is sought to it from 2; 3: 1533
        dueEarly(t, 1, "1 1533 5 3 6 7 0 3 0");
        t.due("best", t.x.best(1, 0), 3);
    }

    private static void nearness() {
        Tester t = twelve("27 nearness");
        t.ask("a b ~2");
        // near of 0 is all there can be: bounds with that are not above 2100
        dueEarly(t, 1, "1 2100 2 2 6 2 0 1 2");
        Tester u = Tester.with("27 most near", "a x b", "a x b");
        u.ask("a b ~2");
        // near of 0 is 50, there could be 100: 1 is looked at, too
        dueEarly(u, 1, "1 1050 3 2 4 4 0 2 0");
        u.ask("a b");
        dueEarly(u, 1, "1 1000 2 2 4 2 0 1 0");
    }

    private static void ended() {
        Tester t = Tester.with("27 ended", "a", "b", "a b");
        t.x.remove(1);
        t.x.remove(2);
        t.x.repack(4);
        t.ask("b");
        dueEarly(t, 1, "0 0 1 0 0 0 0 0 0");
        t.ask("b a");
        dueEarly(t, 1, "1 500 2 1 1 1 0 1 0");
        dueEarly(t, 2, "1 0 2 1 1 1 0 1 0");
    }

    private static void nothingAsked() {
        Tester t = Tester.with("27 nothing asked", "a b");
        dueEarly(t, 1, "0 0 0 0 0 0 0 0 0");
        t.ask("-a ~3 zz");
        dueEarly(t, 10, "0 0 0 0 0 0 0 0 0");
        t.ask("+zz a b");
        // none is a match, but they are looked at
        dueEarly(t, 1, "0 0 2 2 2 2 0 1 0");
    }

    private static void best() {
        Tester t = twelve("28 best");
        t.row("by 1", "0 -1 -1", () -> t.x.best(1, 0), () -> t.x.best(1, 1), () -> t.x.best(1, -1));
        t.row("by 2", "0 11 -1", () -> t.x.best(2, 0), () -> t.x.best(2, 1), () -> t.x.best(2, 2));
        t.row("by 4", "0 11 1 2 -1", () -> t.x.best(4, 0), () -> t.x.best(4, 1), () -> t.x.best(4, 2),
            () -> t.x.best(4, 3), () -> t.x.best(4, 4));
        t.row("far off", "-1 -1", () -> t.x.best(10, Integer.MAX_VALUE), () -> t.x.best(10, Integer.MIN_VALUE));
        t.illegal("k 0", () -> t.x.best(0, 0));
        t.illegal("k 11", () -> t.x.best(11, 0));
        t.illegal("k -1", () -> t.x.best(-1, -1));
    }

    private static void opened() {
        Tester t = twelve("29 opened");
        t.row("by 1", "1 0 0 1", () -> t.x.opened(1, 0, 0), () -> t.x.opened(1, 0, 1), () -> t.x.opened(1, 0, 2),
            () -> t.x.opened(1, 1, 0));
        t.row("by 2", "1 0 1 1", () -> t.x.opened(2, 0, 0), () -> t.x.opened(2, 0, 1), () -> t.x.opened(2, 0, 2),
            () -> t.x.opened(2, 1, 0));
        t.row("by 10", "1 1 1 1", () -> t.x.opened(10, 0, 0), () -> t.x.opened(10, 0, 1),
            () -> t.x.opened(10, 0, 2), () -> t.x.opened(10, 1, 0));
        t.illegal("k 0", () -> t.x.opened(0, 0, 0));
        t.illegal("k 11", () -> t.x.opened(11, 0, 0));
        t.missing("no block", () -> t.x.opened(1, 0, 3));
        t.missing("block -1", () -> t.x.opened(1, 0, -1));
        t.missing("no scored word", () -> t.x.opened(1, 2, 0));
        t.missing("scored word -1", () -> t.x.opened(1, -1, 0));
        t.missing("ahead of k", () -> t.x.opened(0, 1, 1));
        t.x.repack(2);
        t.row("blocks of two", "1 0 1", () -> t.x.opened(2, 0, 0), () -> t.x.opened(2, 0, 3),
            () -> t.x.opened(2, 0, 5));
    }

    private static void swift() {
        Tester t = Tester.with("33 swift", "a b", "a b", "a a", "a b c d", "a b c d", "a b c d");
        t.ask("a");
        // by 2 the best stands in the second block (4), by 3 in the first one
        t.row("swift", "3 3 4", () -> t.x.swift(1, 0), () -> t.x.swift(1, 1), () -> t.x.told(6));
        t.row("all blocks", "2 6", () -> t.x.swift(10, 0), () -> t.x.swift(10, 1));
        t.x.repack(2);
        t.due("by 2", t.x.early(1, 4), 4);
        t.x.repack(3);
        t.due("by 3", t.x.early(1, 4), 3);
        t.illegal("k 0", () -> t.x.swift(0, 0));
        t.illegal("k 11", () -> t.x.swift(11, 0));
        t.illegal("what 2", () -> t.x.swift(1, 2));
        t.illegal("what -1", () -> t.x.swift(1, -1));
        Tester u = twelve("33 swift of two");
        u.row("blocks of two", "2 4 4", () -> u.x.swift(1, 0), () -> u.x.swift(1, 1), () -> u.x.told(6));
        u.x.remove(11);
        u.x.swift(1, 0);
        u.due("nothing is purged", u.x.told(1), 1);
    }

    private static void depth() {
        Tester t = twelve("41 depth");
        t.row("depth", "1 5 2 1", () -> t.x.depth(0, 0), () -> t.x.depth(0, 1), () -> t.x.depth(0, 2),
            () -> t.x.depth(1, 0));
        t.missing("no block", () -> t.x.depth(0, 3));
        t.missing("block -1", () -> t.x.depth(0, -1));
        t.missing("no scored word", () -> t.x.depth(2, 0));
        t.missing("scored word -1", () -> t.x.depth(-1, 0));
        // a is nowhere better than in the first eleven
        Tester u = Tester.with("41 by none", "a", "a", "a", "a", "a", "a", "a", "a", "a", "a", "a", "a");
        u.ask("a");
        u.row("depth", "1 5 9", () -> u.x.depth(0, 0), () -> u.x.depth(0, 1), () -> u.x.depth(0, 2));
        u.x.repack(2);
        u.row("depth", "1 3 5 7 9 -1", () -> u.x.depth(0, 0), () -> u.x.depth(0, 1), () -> u.x.depth(0, 2),
            () -> u.x.depth(0, 3), () -> u.x.depth(0, 4), () -> u.x.depth(0, 5));
    }

    private static void sameAsAnswers() {
        Tester t = twelve("28 as answers");
        for (String question : new String[] {"a b", "x a", "b^9 x ~4", "+b a", "\"a b\" x", "x -b", "\"x x\" a ~1"}) {
            t.ask(question);
            int answers = t.x.answers();
            for (int k = 1; k <= 10; k++) {
                t.due("how many by " + k, t.x.early(k, 0), Math.min(k, answers));
                for (int i = 0; i < k && i < answers; i++) {
                    t.due("best of " + question + " by " + k, t.x.best(k, i), t.x.answer(i, 0));
                }
            }
        }
    }
}
