import java.util.stream.Collectors;
import java.util.stream.IntStream;

/**
 * The edges that "Terms" names for EARLY, and those of promises 27 to 29, 33 and 41: runs reckoned by hand, turn by
 * turn, in which a number is just what it is compared with, or just beyond it.
 */
final class EdgeEarlyTest {
    private static final int LEAST = Integer.MIN_VALUE;
    private static final int GREATEST = Integer.MAX_VALUE;

    public static void main(String[] args) {
        oneToTen();
        floorByK();
        boundIsFloor();
        boundIsAboveFloor();
        boundIsBelowFloor();
        aboveFloorByOne();
        belowFloorByOne();
        orderedByPlace();
        alikeAsInOrder();
        mostNearOfOneTwoThree();
        skippedAtFloor();
        notSkippedAboveFloor();
        skippedAtFloorWithMostNear();
        skippedToTheNextList();
        skippedToTheBlockBehind();
        onlyThoseHereAreDipped();
        noBlockReaches();
        noBlockReachesAndTheRestIsFloor();
        soughtToTheEnd();
        lastIsTheDocument();
        noneIsAtThePlace();
        placeWithinABlock();
        scoreIsFloor();
        asAnswers();
        endedAtFirst();
        noScoredWords();
        mostScoredWords();
        mostBlocks();
        sparedFirstBlock();
        goneOnesAreLookedAt();
        best();
        opened();
        swift();
        swiftByEight();
        swiftByAnotherSize();
        depth();
        Tester.end("edges of early");
    }

    /** All nine numbers of EARLY: best, FLOOR, TURNS, OPENED, WORK, SOUGHT, SKIPS, LOOKED AT, SPARED. */
    private static void dueEarly(Tester t, int k, String want) {
        String got = IntStream.rangeClosed(0, 8).mapToObj(what -> Integer.toString(t.x.early(k, what)))
            .collect(Collectors.joining(" "));
        t.row("early by " + k + " is " + got + ", due is " + want + ":", "1", () -> got.equals(want) ? 1 : 0);
    }

    private static Tester alike(String name, int documents, String text) {
        Tester t = new Tester(name);
        for (int i = 0; i < documents; i++) {
            t.add(text);
        }
        return t;
    }

    /** "EARLY by k (1 to 10)". */
    private static void oneToTen() {
        Tester t = alike("27 1 to 10", 12, "a");
        t.ask("a");
        t.each("k", "illegal 1 2 9 10 illegal", k -> t.x.early(k, 0), 0, 1, 2, 9, 10, 11);
        t.each("far off", "illegal illegal illegal", k -> t.x.early(k, 0), -1, GREATEST, LEAST);
        t.each("what", "illegal 10 0 illegal illegal illegal", what -> t.x.early(10, what), -1, 0, 8, 9, GREATEST,
            LEAST);
        t.each("both", "illegal illegal", k -> t.x.early(k, 9), 0, 11);
        t.row("counted once", "0 11", () -> t.x.status(0), () -> t.x.status(1));
    }

    /** "FLOOR: the SCORE of the k-th best by now, 0, as long as there are fewer." */
    private static void floorByK() {
        Tester t = Tester.with("27 FLOOR", "a x x x", "a", "a a");
        t.ask("a");
        t.each("floor", "666 500 333 0 0", k -> t.x.early(k, 1), 1, 2, 3, 4, 10);
        t.each("how many", "1 2 3 3 3", k -> t.x.early(k, 0), 1, 2, 3, 4, 10);
    }

    /** "the first LIST by which it is above FLOOR is the PIVOT; none: it is over": BOUND is just FLOOR. */
    private static void boundIsFloor() {
        Tester t = Tester.with("27 BOUND is FLOOR", "a", "a");
        t.ask("a");
        // 0 is looked at: 500, as the BOUND is
        dueEarly(t, 1, "1 500 2 1 2 1 0 1 0");
        // the FLOOR is 0 until two are there
        dueEarly(t, 2, "2 500 3 1 2 2 0 2 0");
        dueEarly(t, 3, "2 0 3 1 2 2 0 2 0");
    }

    private static void boundIsAboveFloor() {
        Tester t = Tester.with("27 BOUND is above FLOOR", "a", "a a");
        t.ask("a");
        dueEarly(t, 1, "1 666 3 1 2 2 0 2 0");
    }

    private static void boundIsBelowFloor() {
        Tester t = Tester.with("27 BOUND is below FLOOR", "a b", "a");
        t.ask("a b");
        // 0: 500 and 1000; the BOUND of a is 500, b is ENDED
        dueEarly(t, 1, "1 1500 2 2 3 2 0 1 0");
    }

    /** BOUNDS and a SCORE of 1000 by a FLOOR of 999: no SKIP, and it is among the best. */
    private static void aboveFloorByOne() {
        Tester t = Tester.with("27 above FLOOR by one", "b x x x", "b x x x", "b x x x", "a", "a");
        t.ask("b^3 a");
        // 0: 3 times 333; P is 3, b is SOUGHT and ENDED; 3: 2 times 500; 4 is not above that
        dueEarly(t, 1, "1 1000 4 2 5 3 0 2 0");
        t.due("best", t.x.best(1, 0), 3);
    }

    /** BOUNDS of 999 by a FLOOR of 1000: a SKIP. */
    private static void belowFloorByOne() {
        Tester t = Tester.with("27 below FLOOR by one", "a", "a", "b x x x", "b x x x", "b x x x");
        t.ask("a b^3");
        // 0: 1000; P is 2, where b alone has a BLOCK: a skip beyond all
        dueEarly(t, 1, "1 1000 3 1 2 1 1 1 1");
        t.due("best", t.x.best(1, 0), 0);
    }

    /** "LISTS that are not ENDED are ordered by PLACE", however the WORDS stand in the QUESTION. */
    private static void orderedByPlace() {
        Tester t = Tester.with("27 ordered by PLACE", "a", "b", "c");
        for (String question : new String[] {"a b c", "a c b", "b a c", "b c a", "c a b", "c b a"}) {
            t.ask(question);
            dueEarly(t, 10, "3 0 4 3 3 3 0 3 0");
            t.each("best", "0 1 2", i -> t.x.best(10, i), 0, 1, 2);
        }
    }

    /** "of alike ones as in order": which of two LISTS at one PLACE is SOUGHT first. */
    private static void alikeAsInOrder() {
        Tester t = Tester.with("27 alike ones as in order", "b c", "b", "a", "c");
        t.ask("b a c");
        // 0: 2000; P is 2, b and c are at 1: b is SOUGHT and ENDED, c is SOUGHT to 3; P is 3: a skip beyond all
        dueEarly(t, 1, "1 2000 5 2 4 4 1 1 1");
        t.ask("c a b");
        // c is SOUGHT to 3 first; P is 2, a alone reaches it: a skip to 3; c is not above the FLOOR
        dueEarly(t, 1, "1 2000 4 2 4 3 1 1 1");
    }

    /** "MOSTNEAR: 50 times w for each two SCORED WORDS one behind the other in order." */
    private static void mostNearOfOneTwoThree() {
        Tester one = Tester.with("27 MOSTNEAR of one", "a", "a");
        one.ask("a ~9");
        dueEarly(one, 1, "1 500 2 1 2 1 0 1 0");
        Tester two = Tester.with("27 MOSTNEAR of two", "a b", "a b");
        two.ask("a b ~1");
        // 1050, and BOUNDS are 50 and 500 and 500
        dueEarly(two, 1, "1 1050 2 2 4 2 0 1 0");
        Tester less = Tester.with("27 MOSTNEAR is above", "a x b", "a b");
        less.ask("a b ~1");
        // 1000 first
        dueEarly(less, 1, "1 1050 3 2 4 4 0 2 0");
        Tester three = Tester.with("27 MOSTNEAR of three", "a b c", "a b c");
        three.ask("a b c ~2");
        // 1500 and 100 and 100
        dueEarly(three, 1, "1 1700 2 3 6 3 0 1 0");
    }

    /** "added up, with MOSTNEAR: is that not above FLOOR, it is a SKIP": it is just FLOOR. */
    private static void skippedAtFloor() {
        Tester t = Tester.with("27 SKIP at FLOOR", "a", "a", "a", "a", "a a");
        t.x.repack(2);
        t.ask("a");
        // 0: 500; at 1 and at 2 a BLOCK of 500 is skipped, to 2 and to 4; 4: 666; none is left
        dueEarly(t, 1, "1 666 5 2 3 2 2 2 1");
        // 0, 1 (FLOOR 500), a skip from 2 to 4, 4, none is left
        dueEarly(t, 2, "2 500 5 2 3 3 1 3 1");
    }

    private static void notSkippedAboveFloor() {
        Tester t = Tester.with("27 no SKIP above FLOOR", "a", "a", "a a", "a", "a a");
        t.x.repack(2);
        t.ask("a");
        // 0: 500; a skip from 1 to 2; 2: 666, as the BOUND is
        dueEarly(t, 1, "1 666 4 2 4 2 1 2 1");
    }

    private static void skippedAtFloorWithMostNear() {
        Tester t = Tester.with("27 SKIP with MOSTNEAR", "a b", "a b", "a b", "a b", "a a b");
        t.x.repack(2);
        t.ask("a b ~1");
        // 0: 1050; at 1 and at 2 BLOCKS of 500 and 500 and 50; 4: 666 and 500 and 50
        dueEarly(t, 1, "1 1216 5 4 6 4 2 2 2");
    }

    /** "each of HERE is DIPPED to the least of LAST and 1 .., and of PLACE of the first LIST that is not HERE". */
    private static void skippedToTheNextList() {
        Tester t = Tester.with("27 SKIP to the next LIST", "a", "a", "x", "a b", "a", "x", "a a");
        t.ask("a b");
        // 0: 500; a skip from 1, not to 5, but to 3, where b is; 3: 500 and 1500; no BOUND is above that
        dueEarly(t, 1, "1 2000 4 2 5 3 1 2 1");
        t.due("best", t.x.best(1, 0), 3);
    }

    private static void skippedToTheBlockBehind() {
        Tester t = Tester.with("27 SKIP to LAST and 1", "a", "a", "a", "a", "a a", "b");
        t.x.repack(2);
        t.ask("a b");
        // 0: 500; skips from 1 to 2 and from 2 to 4, though b is at 5; 4: 666; 5: 1500
        dueEarly(t, 1, "1 1500 6 3 4 3 2 3 1");
    }

    /** "each of HERE .. is DIPPED": the first LIST that is not HERE stays where it is, though its BLOCK began before. */
    private static void onlyThoseHereAreDipped() {
        Tester t = Tester.with("27 those HERE", "a c", "b", "b", "b b", "a c");
        t.x.repack(2);
        t.ask("a b");
        // 0: 1000; 1: 500, a goes to 4; a skip of b from 2 to 3; 3: 666; 4: 1000
        dueEarly(t, 2, "2 1000 6 3 5 5 1 4 0");
        t.each("best", "0 4 -1", i -> t.x.best(2, i), 0, 1, 2);
    }

    /** "the first BLOCK, from its own on, whose LAST is not less than P, if there is one". */
    private static void noBlockReaches() {
        Tester t = Tester.with("27 no BLOCK reaches P", "a b", "b", "a", "x", "x", "b b");
        t.x.repack(2);
        for (String question : new String[] {"a b", "b a", "a b"}) {
            t.ask(question);
            // 0: 1000 and 1000; at 1 a skip to 2; P is 5 then: a has no BLOCK there, b 1332: a skip beyond all
            dueEarly(t, 1, "1 2000 4 2 4 2 2 1 1");
        }
    }

    private static void noBlockReachesAndTheRestIsFloor() {
        Tester t = Tester.with("27 no BLOCK reaches P, FLOOR", "b b", "a", "a", "x", "x", "b b");
        t.x.repack(2);
        t.ask("a b");
        // 0: 1332; 1 by both: 1000; P is 5 then: a has no BLOCK there, b just 1332: a skip beyond all
        dueEarly(t, 1, "1 1332 4 2 4 3 1 2 0");
    }

    /** "(is there none, it is ENDED)": SOUGHT, but nothing is OPENED. */
    private static void soughtToTheEnd() {
        Tester t = Tester.with("27 SOUGHT to the end", "a", "x", "a", "x", "x", "b");
        t.x.repack(2);
        t.ask("a b");
        // 0: 1000; P is 5, a is SOUGHT to it and ENDED; 5: 1500
        dueEarly(t, 1, "1 1500 4 2 3 3 0 2 0");
    }

    /** "as long as LAST of its BLOCK is less than that": LAST is just the DOCUMENT. */
    private static void lastIsTheDocument() {
        Tester t = alike("27 LAST", 4, "a");
        t.x.repack(2);
        t.ask("a");
        dueEarly(t, 10, "4 0 5 2 4 4 0 4 0");
        t.each("best", "0 1 2 3 -1", i -> t.x.best(10, i), 0, 1, 2, 3, 4);
    }

    /** "is any at P then": after a DIP PLACE may be a DOCUMENT that the LIST has not. */
    private static void noneIsAtThePlace() {
        Tester t = Tester.with("27 none is at P", "a", "x", "a");
        t.ask("a");
        // 0; 1 is SOUGHT, but not LOOKED AT; 2; none is left
        dueEarly(t, 10, "2 0 4 1 2 3 0 2 0");
        Tester u = Tester.with("27 none is at P, in a later BLOCK", "a", "a", "a", "a", "a", "x", "a");
        u.x.repack(2);
        u.ask("a");
        // 0 to 4; 5 is SOUGHT, but not LOOKED AT; 6; none is left
        dueEarly(u, 10, "6 0 8 3 6 7 0 6 0");
    }

    /** "PLACE is the least DOCUMENT of it that is not less": the third, the fourth of its BLOCK, too. */
    private static void placeWithinABlock() {
        Tester t = Tester.with("27 PLACE within a BLOCK", "z a", "x", "a", "x", "x", "a");
        t.ask("a");
        // 0; at 1 a goes to 2; 2; at 3 a goes to 5; 5; none is left
        dueEarly(t, 10, "3 0 6 1 3 5 0 3 0");
        Tester u = Tester.with("27 PLACE within the second BLOCK", "a", "a", "a", "a", "a", "a", "x", "x", "a", "x", "x",
            "a");
        u.ask("a");
        // 0 to 5; at 6 a goes to 8; 8; at 9 a goes to 11; 11; none is left
        dueEarly(u, 10, "8 0 11 2 8 10 0 8 0");
    }

    /** "its SCORE is above FLOOR, or there are fewer than k": it is just FLOOR. */
    private static void scoreIsFloor() {
        Tester t = Tester.with("27 SCORE is FLOOR", "a", "a", "a a z");
        t.ask("a -z");
        // all three are looked at: 500, 500, no MATCH
        dueEarly(t, 1, "1 500 4 1 3 3 0 3 0");
        t.each("by 1", "0 -1", i -> t.x.best(1, i), 0, 1);
        t.each("by 2", "0 1 -1", i -> t.x.best(2, i), 0, 1, 2);
        t.ask("a");
        t.each("one that is above", "2 -1", i -> t.x.best(1, i), 0, 1);
        t.each("one that is above, by 2", "2 0 -1", i -> t.x.best(2, i), 0, 1, 2);
        t.each("by 3", "2 0 1 -1", i -> t.x.best(3, i), 0, 1, 2, 3);
    }

    /** "it is among the best by now (k at most, as ANSWERS)". */
    private static void asAnswers() {
        Tester t = Tester.with("27 as ANSWERS", "a", "a x x x", "a a", "a", "a x x x", "a a", "a a a");
        t.ask("a");
        // 500 333 666 500 333 666 750
        for (int k = 1; k <= 10; k++) {
            int by = k;
            int[] all = {6, 2, 5, 0, 3, 1, 4};
            for (int i = -1; i <= 10; i++) {
                t.due("best by " + by, t.x.best(by, i), i >= 0 && i < Math.min(by, 7) ? all[i] : -1);
            }
        }
    }

    /** "or is ENDED": a WORD without POSTINGS. */
    private static void endedAtFirst() {
        Tester t = Tester.with("27 ENDED at first", "a", "b", "a");
        t.x.remove(1);
        t.x.repack(4);
        t.ask("b");
        dueEarly(t, 1, "0 0 1 0 0 0 0 0 0");
        t.ask("b a");
        dueEarly(t, 1, "1 500 2 1 2 1 0 1 0");
        t.each("no block", "missing missing", b -> t.x.opened(1, 0, b), 0, 1);
        t.each("no block", "missing missing", b -> t.x.depth(0, b), 0, 1);
        // MOSTNEAR counts the word all the same: 450 more than the FLOOR of 500; none is at 1
        t.ask("b a ~9");
        dueEarly(t, 1, "1 500 4 1 2 3 0 2 0");
    }

    /** "(Without SCORED WORDS there are no TURNS.)" */
    private static void noScoredWords() {
        Tester t = Tester.with("27 without SCORED WORDS", "a");
        dueEarly(t, 1, "0 0 0 0 0 0 0 0 0");
        t.ask("-a ~9");
        dueEarly(t, 10, "0 0 0 0 0 0 0 0 0");
        t.row("swift", "2 0", () -> t.x.swift(1, 0), () -> t.x.swift(1, 1));
        t.ask("a");
        dueEarly(t, 1, "1 500 2 1 1 1 0 1 0");
        Tester none = new Tester("27 without DOCUMENTS");
        none.ask("a");
        dueEarly(none, 1, "0 0 0 0 0 0 0 0 0");
    }

    /** 24 SCORED WORDS, each with one BLOCK, and fewer of them then. */
    private static void mostScoredWords() {
        Tester t = Tester.with("27 most SCORED WORDS", "a b c d e f g h i j k l m n o p q r s t u v w x");
        t.ask("\"a b c d\"\"e f g h\"\"i j k l\"\"m n o p\"\"q r s t\"\"u v w x\"");
        // GAIN 1000 by 8
        dueEarly(t, 1, "1 3000 2 24 24 24 0 1 0");
        t.row("of the last", "1 missing 1 125 -1", () -> t.x.opened(1, 23, 0), () -> t.x.opened(1, 24, 0),
            () -> t.x.depth(23, 0), () -> t.x.points(0, 23), () -> t.x.points(0, 24));
        t.row("of all", "0 3000 0 24 1 0", () -> t.x.why(0), () -> t.x.score(0), () -> t.x.window(0, 0),
            () -> t.x.window(0, 1), t.x::full, () -> t.x.without(1, 23));
        t.ask("x w ~1");
        dueEarly(t, 1, "1 300 2 2 2 2 0 1 0");
        t.row("of two", "0 300 22 2 1 50", () -> t.x.why(0), () -> t.x.score(0), () -> t.x.window(0, 0),
            () -> t.x.window(0, 1), t.x::full, () -> t.x.near(0));
        String all = "a b c d e f g h i j k l m n o p q r s t u v w x";
        Tester u = Tester.with("27 most SCORED WORDS, skipped", all, all, all, all, "x x");
        u.x.repack(2);
        u.ask("\"a b c d\"\"e f g h\"\"i j k l\"\"m n o p\"\"q r s t\"\"u v w x\"");
        // 0: 3000; skips of all 24 to 2 and to 4, where x is left: 666
        dueEarly(u, 1, "1 3000 4 24 48 24 2 1 25");
    }

    /** 32 BLOCKS, all of them gone through to the end. */
    private static void mostBlocks() {
        Tester t = alike("27 most BLOCKS", 64, "a b");
        t.x.repack(2);
        t.ask("a -b");
        dueEarly(t, 1, "0 0 65 32 64 64 0 64 0");
        t.each("opened", "1 1 missing", b -> t.x.opened(1, 0, b), 0, 31, 32);
        t.ask("a b");
        dueEarly(t, 10, "10 1000 11 10 20 20 0 10 54");
    }

    /** "A BLOCK that EARLY never OPENED is SPARED": the first one of a LIST, too. */
    private static void sparedFirstBlock() {
        Tester t = Tester.with("27 SPARED", "a", "b", "b", "b");
        t.x.repack(2);
        t.ask("a^9 b");
        // a: 9 times 3 times 500; b, in two BLOCKS, is not above that
        dueEarly(t, 1, "1 13500 2 1 1 1 0 1 2");
        t.each("opened", "0 0 missing", b -> t.x.opened(1, 1, b), 0, 1, 2);
        // by 2 the FLOOR is 500 as soon as 1 is there, by 3 as soon as 2 is
        t.each("depth", "2 4 missing", b -> t.x.depth(1, b), 0, 1, 2);
    }

    private static void goneOnesAreLookedAt() {
        Tester t = Tester.with("27 GONE", "a", "a", "a");
        t.ask("a");
        t.x.remove(0);
        // 0 is no MATCH; 1 is 500
        dueEarly(t, 1, "1 500 3 1 3 2 0 2 0");
        t.x.remove(1);
        t.x.remove(2);
        dueEarly(t, 1, "0 0 4 1 3 3 0 3 0");
        t.x.repack(4);
        dueEarly(t, 1, "0 0 1 0 0 0 0 0 0");
    }

    private static void best() {
        Tester t = alike("28 best", 12, "a");
        t.ask("a");
        t.each("by 10", "-1 -1 0 9 -1 -1", i -> t.x.best(10, i), LEAST, -1, 0, 9, 10, GREATEST);
        t.each("by 1", "-1 0 -1", i -> t.x.best(1, i), -1, 0, 1);
        t.each("k", "illegal 0 0 illegal illegal illegal", k -> t.x.best(k, 0), 0, 1, 10, 11, GREATEST, LEAST);
        t.each("another k comes ahead of none", "illegal illegal", k -> t.x.best(k, 99), 0, 11);
        t.ask("zz");
        t.each("there are none", "-1 -1", i -> t.x.best(1, i), 0, -1);
    }

    private static void opened() {
        Tester t = alike("29 opened", 9, "a b");
        t.ask("a b");
        // the best is 0; by 10 all are opened
        t.each("by 1", "missing 1 0 0 missing missing missing", b -> t.x.opened(1, 0, b), -1, 0, 1, 2, 3, GREATEST,
            LEAST);
        t.each("by 10", "1 1 1", b -> t.x.opened(10, 1, b), 0, 1, 2);
        t.each("scored words", "missing 1 1 missing missing missing", i -> t.x.opened(1, i, 0), -1, 0, 1, 2, GREATEST,
            LEAST);
        t.each("k", "illegal 1 1 illegal illegal illegal", k -> t.x.opened(k, 0, 0), 0, 1, 10, 11, GREATEST, LEAST);
        t.each("no block comes ahead of k", "missing missing", k -> t.x.opened(k, 0, 3), 0, 11);
        t.each("no scored word comes ahead of k", "missing missing", k -> t.x.opened(k, 2, 0), 0, 11);
        t.x.repack(8);
        t.each("by another SIZE", "1 0 missing", b -> t.x.opened(1, 0, b), 0, 1, 2);
    }

    /** "SIZE (2 to 8) by which WORK of EARLY by k is least (what 0), of alike ones the least; that WORK (1)." */
    private static void swift() {
        Tester t = alike("33 swift", 9, "a");
        t.ask("a");
        // the best is 0: one BLOCK, 2 of 2 POSTINGS; of ten all nine by any SIZE
        t.each("by 1", "illegal 2 2 illegal illegal illegal", what -> t.x.swift(1, what), -1, 0, 1, 2, GREATEST, LEAST);
        t.each("by 10", "2 9", what -> t.x.swift(10, what), 0, 1);
        t.each("by 3", "3 3", what -> t.x.swift(3, what), 0, 1);
        t.each("by 7", "7 7", what -> t.x.swift(7, what), 0, 1);
        t.each("by 8", "2 8", what -> t.x.swift(8, what), 0, 1);
        t.each("k", "illegal 2 9 illegal illegal illegal", k -> t.x.swift(k, 1), 0, 1, 10, 11, GREATEST, LEAST);
        t.each("both", "illegal illegal", k -> t.x.swift(k, 2), 0, 11);
        t.due("nothing stays changed", t.x.told(6), 4);
    }

    /** "SIZE (2 to 8)": the greatest is the best one here. */
    private static void swiftByEight() {
        Tester t = Tester.with("33 swift by 8", "b", "b b", "a", "b x x x", "a x x x", "a a b", "b b", "b b", "b", "a",
            "b b", "a a", "b b");
        t.ask("a b");
        // by 8 the last BLOCK of b, 12 alone, is never OPENED: a comes with b to 10, and b goes to 12 from there;
        // by others b is SOUGHT to 11, where a is, or has 12 in a BLOCK that is OPENED
        t.each("swift", "8 13", what -> t.x.swift(2, what), 0, 1);
        int[] work = {14, 14, 14, 14, 14, 14, 13};
        for (int size = 2; size <= 8; size++) {
            t.x.repack(size);
            t.due("work by " + size, t.x.early(2, 4), work[size - 2]);
            t.each("swift, whatever SIZE is now", "8 13", what -> t.x.swift(2, what), 0, 1);
        }
    }

    /** BLOCKS are those of the SIZE that is tried, not of SIZE now. */
    private static void swiftByAnotherSize() {
        Tester t = Tester.with("33 swift by 3", "a a", "a", "x", "x", "x", "b", "b", "x", "x", "a a", "a");
        t.ask("a^9 b");
        // a RARE 2, b RARE 3; 0: 11988, as the BOUND of a is; P is 5, a is SOUGHT to it and goes to 9, b alone is 1500:
        // a skip from 9; by 2 a has 9 in its second BLOCK with 10, by 3 in its first one, 10 by itself
        int[] work = {4, 3, 4, 4, 4, 4, 4};
        for (int size = 2; size <= 8; size++) {
            t.x.repack(size);
            dueEarly(t, 1, "1 11988 4 " + (size == 2 ? 2 : 1) + " " + work[size - 2] + " 2 1 1 "
                + (size < 4 ? size - 1 : 1));
            t.each("swift, whatever SIZE is now", "3 3", what -> t.x.swift(1, what), 0, 1);
        }
    }

    /** "The least k by which EARLY OPENS a BLOCK ..; NONE: by none": 1, 10, and one that 11 would be needed for. */
    private static void depth() {
        Tester t = alike("41 depth", 12, "a");
        t.ask("a");
        t.x.repack(3);
        t.each("by three", "missing 1 4 7 10 missing missing missing", b -> t.x.depth(0, b), -1, 0, 1, 2, 3, 4, GREATEST,
            LEAST);
        t.x.repack(5);
        t.each("by five", "1 6 -1 missing", b -> t.x.depth(0, b), 0, 1, 2, 3);
        t.x.repack(2);
        t.each("by two", "1 9 -1 missing", b -> t.x.depth(0, b), 0, 4, 5, 6);
        t.each("scored words", "missing 1 missing missing missing", i -> t.x.depth(i, 0), -1, 0, 1, GREATEST, LEAST);
    }
}
