/** Promises 19 to 26, 30, 35, 39, 40 and 42: SCORED WORDS, MATCHES, SCORES and ANSWERS. */
final class QuestionsTest {
    public static void main(String[] args) {
        scored();
        why();
        knownWhenTold();
        score();
        near();
        window();
        answers();
        place();
        inside();
        full();
        points();
        phrase();
        without();
        Tester.end("questions");
    }

    /** a 0, b 1, c 2, d 3, e 4: RARE of a 1, of b 2, of c 1, of d 3, of e 3 (of five DOCUMENTS 5 4 2 1 1 by a c b d e). */
    private static Tester five(String name) {
        return Tester.with(name, "a b c", "a c a", "a c", "d a b c b", "a e");
    }

    private static void scored() {
        Tester t = five("19 scored");
        t.ask("b^3 +a \"c d\" zz b ~2");
        t.row("numbers", "1 0 2 3 -1", () -> t.x.scored(0, 0), () -> t.x.scored(1, 0), () -> t.x.scored(2, 0),
            () -> t.x.scored(3, 0), () -> t.x.scored(4, 0));
        t.row("boosts", "4 1 1 1 -1", () -> t.x.scored(0, 1), () -> t.x.scored(1, 1), () -> t.x.scored(2, 1),
            () -> t.x.scored(3, 1), () -> t.x.scored(4, 1));
        t.row("must", "0 1 1 1 -1", () -> t.x.scored(0, 2), () -> t.x.scored(1, 2), () -> t.x.scored(2, 2),
            () -> t.x.scored(3, 2), () -> t.x.scored(4, 2));
        // tops: b 500 (1 of 3) or 2000/4, a 2000/3, c 500, d 1000/3
        t.row("bounds", "4000 666 500 999 -1", () -> t.x.scored(0, 3), () -> t.x.scored(1, 3),
            () -> t.x.scored(2, 3), () -> t.x.scored(3, 3), () -> t.x.scored(4, 3));
        t.row("none such", "-1 -1 -1", () -> t.x.scored(-1, 0), () -> t.x.scored(Integer.MAX_VALUE, 3),
            () -> t.x.scored(Integer.MIN_VALUE, 1));
        t.illegal("what 4", () -> t.x.scored(0, 4));
        t.illegal("what -1", () -> t.x.scored(0, -1));
        t.illegal("what, also without such a word", () -> t.x.scored(9, 4));
        t.ask("a c^4 +c^5");
        t.row("the second one twice", "1 9 0 1", () -> t.x.scored(0, 1), () -> t.x.scored(1, 1),
            () -> t.x.scored(0, 2), () -> t.x.scored(1, 2));
        t.ask("b^3 +a \"c d\" zz b ~2");
        t.add("b");
        // of six documents b has three: 2
        t.due("bound now", t.x.scored(0, 3), 4 * 2 * 500);
        t.x.remove(3);
        t.x.repack(2);
        t.row("without postings", "3 1 1 0", () -> t.x.scored(3, 0), () -> t.x.scored(3, 1), () -> t.x.scored(3, 2),
            () -> t.x.scored(3, 3));
    }

    private static void why() {
        Tester t = five("20 why");
        t.due("without a question", t.x.why(0), 2);
        t.ask("a");
        t.row("all", "0 0 0 0 0", () -> t.x.why(0), () -> t.x.why(1), () -> t.x.why(2), () -> t.x.why(3),
            () -> t.x.why(4));
        t.ask("e +b -d");
        t.row("2 to 4", "0 2 2 4 3", () -> t.x.why(0), () -> t.x.why(1), () -> t.x.why(2), () -> t.x.why(3),
            () -> t.x.why(4));
        t.ask("\"a b\" -d \"b c\"");
        t.row("phrases", "0 3 3 4 3", () -> t.x.why(0), () -> t.x.why(1), () -> t.x.why(2), () -> t.x.why(3),
            () -> t.x.why(4));
        t.ask("\"a c\" \"c a\"");
        t.row("both phrases", "5 0 5 5 3", () -> t.x.why(0), () -> t.x.why(1), () -> t.x.why(2), () -> t.x.why(3),
            () -> t.x.why(4));
        t.ask("\"b c\" \"a c\"");
        t.row("the second phrase is missing", "5 3", () -> t.x.why(0), () -> t.x.why(1));
        t.ask("\"a c\" \"b c\"");
        t.row("the first phrase is missing", "5 3", () -> t.x.why(0), () -> t.x.why(1));
        t.ask("+zz a");
        t.row("one of must is not known", "3 3", () -> t.x.why(0), () -> t.x.why(4));
        t.ask("+zz");
        t.due("no scored word comes first", t.x.why(0), 2);
        t.ask("-zz a");
        t.due("not: only known ones", t.x.why(0), 0);
        t.ask("+b -b");
        t.row("must and not", "4 2", () -> t.x.why(0), () -> t.x.why(1));
        t.x.remove(0);
        t.due("gone comes first", t.x.why(0), 1);
        t.ask("zz");
        t.due("gone comes first", t.x.why(0), 1);
        t.missing("no document", () -> t.x.why(5));
        t.missing("no document", () -> t.x.why(-1));
        t.x.repack(2);
        t.missing("purged", () -> t.x.why(0));
    }

    private static void knownWhenTold() {
        Tester t = Tester.with("20 known when told", "a");
        t.ask("zz a +yy");
        t.add("zz a yy");
        t.row("words that came later", "1 3 3", () -> t.x.told(7), () -> t.x.why(1), () -> t.x.why(0));
        t.ask("zz a +yy");
        t.row("told again", "3 0 3", () -> t.x.told(7), () -> t.x.why(1), () -> t.x.why(0));
        t.ask("a -xx");
        t.add("a xx");
        t.due("not, known later", t.x.why(2), 0);
        t.ask("a -xx");
        t.due("told again", t.x.why(2), 4);
    }

    private static void score() {
        Tester t = five("21 score");
        t.due("without a question", t.x.score(0), 0);
        t.ask("a^2 b^3");
        // gains: a 500 666 500 333 500, b 500 - - 500 -
        t.row("points together", "4000 1332 1000 3666 1000", () -> t.x.score(0), () -> t.x.score(1),
            () -> t.x.score(2), () -> t.x.score(3), () -> t.x.score(4));
        t.ask("a^2 b^3 ~3");
        t.row("with near", "4150 1332 3816", () -> t.x.score(0), () -> t.x.score(1), () -> t.x.score(3));
        t.ask("+b a -c");
        t.row("match or not", "1500 666 500", () -> t.x.score(0), () -> t.x.score(1), () -> t.x.score(4));
        t.x.remove(0);
        t.due("gone", t.x.score(0), 1500);
        t.missing("no document", () -> t.x.score(5));
        t.missing("no document", () -> t.x.score(-1));
        t.x.repack(4);
        t.missing("purged", () -> t.x.score(0));
        // of four documents b has one now: 3
        t.due("rare by those that are left", t.x.score(3), 3 * 500 + 333);
    }

    private static void near() {
        Tester t = Tester.with("22 near", "a x x b x c", "b a c", "a x x x x b", "a c", "c b a x a x x b c");
        t.ask("a b c");
        t.row("without", "0 0", () -> t.x.near(0), () -> t.x.near(1));
        t.ask("~3 a b c");
        // 0: a b 3, b c 2; 1: a b 1, b c 2; 2: a b 5; 3: none one behind the other; 4: a b 1, b c 1
        t.row("3", "150 250 0 0 300", () -> t.x.near(0), () -> t.x.near(1), () -> t.x.near(2), () -> t.x.near(3),
            () -> t.x.near(4));
        t.ask("a b c ~1");
        t.row("1", "0 50 0 0 100", () -> t.x.near(0), () -> t.x.near(1), () -> t.x.near(2), () -> t.x.near(3),
            () -> t.x.near(4));
        t.ask("a c b ~9");
        // a c and c b: 0: 5 and 2; 1: 1 and 2; 2: none; 3: 1; 4: 2 and 1
        t.row("another order", "650 850 0 450 850", () -> t.x.near(0), () -> t.x.near(1), () -> t.x.near(2),
            () -> t.x.near(3), () -> t.x.near(4));
        t.ask("a ~9");
        t.due("one word", t.x.near(0), 0);
        t.ask("a zz b ~3");
        t.due("of known ones", t.x.near(0), 50);
        t.ask("a^3 b a ~3");
        t.due("each once", t.x.near(0), 50);
        t.x.remove(0);
        t.due("gone", t.x.near(0), 50);
        t.missing("no document", () -> t.x.near(5));
        t.missing("no document", () -> t.x.near(-1));
        t.x.repack(4);
        t.missing("purged", () -> t.x.near(0));
    }

    private static void window() {
        Tester t = Tester.with("23 window", "a x b x x a b c", "c x a", "x x", "x a x a", "b c x c b a x a c b");
        t.row("without a question", "-1 0", () -> t.x.window(0, 0), () -> t.x.window(0, 1));
        t.ask("a b c");
        t.row("begin", "5 0 -1 1 3", () -> t.x.window(0, 0), () -> t.x.window(1, 0), () -> t.x.window(2, 0),
            () -> t.x.window(3, 0), () -> t.x.window(4, 0));
        t.row("how many", "3 3 0 1 3", () -> t.x.window(0, 1), () -> t.x.window(1, 1), () -> t.x.window(2, 1),
            () -> t.x.window(3, 1), () -> t.x.window(4, 1));
        t.ask("a b");
        t.row("of as short ones the first", "5 2 4 2", () -> t.x.window(0, 0), () -> t.x.window(0, 1),
            () -> t.x.window(4, 0), () -> t.x.window(4, 1));
        t.ask("x -a");
        t.row("match or not", "1 1", () -> t.x.window(0, 0), () -> t.x.window(0, 1));
        t.illegal("what 2", () -> t.x.window(0, 2));
        t.illegal("what -1", () -> t.x.window(0, -1));
        t.missing("no document, ahead of what", () -> t.x.window(5, 2));
        t.missing("no document", () -> t.x.window(-1, 0));
        t.x.remove(0);
        t.due("gone", t.x.window(0, 0), 1);
        t.x.repack(4);
        t.missing("purged", () -> t.x.window(0, 0));
    }

    private static void answers() {
        Tester t = five("24, 25 answers");
        t.due("without a question", t.x.answers(), 0);
        t.missing("answer(0, 0)", () -> t.x.answer(0, 0));
        t.ask("a");
        // a: 500 666 500 333 500
        t.due("all", t.x.answers(), 5);
        t.row("documents", "1 0 2 4 3", () -> t.x.answer(0, 0), () -> t.x.answer(1, 0), () -> t.x.answer(2, 0),
            () -> t.x.answer(3, 0), () -> t.x.answer(4, 0));
        t.row("scores", "666 500 500 500 333", () -> t.x.answer(0, 1), () -> t.x.answer(1, 1),
            () -> t.x.answer(2, 1), () -> t.x.answer(3, 1), () -> t.x.answer(4, 1));
        t.missing("a sixth", () -> t.x.answer(5, 0));
        t.missing("-1, ahead of what", () -> t.x.answer(-1, 2));
        t.illegal("what 2", () -> t.x.answer(0, 2));
        t.illegal("what -1", () -> t.x.answer(0, -1));
        t.x.remove(1);
        t.row("not those gone", "4 0", t.x::answers, () -> t.x.answer(0, 0));
        t.x.repack(3);
        t.row("nor those purged", "4 0 3", t.x::answers, () -> t.x.answer(0, 0), () -> t.x.answer(3, 0));
        t.ask("+b c -d");
        t.row("one", "1 0", t.x::answers, () -> t.x.answer(0, 0));
        t.add("b");
        t.row("a document that came later", "2 0 5", t.x::answers, () -> t.x.answer(0, 0), () -> t.x.answer(1, 0));
    }

    private static void place() {
        Tester t = five("26 place");
        t.due("without a question", t.x.place(0), -1);
        t.ask("a -e");
        t.row("place", "1 0 2 3 -1", () -> t.x.place(0), () -> t.x.place(1), () -> t.x.place(2), () -> t.x.place(3),
            () -> t.x.place(4));
        t.x.remove(1);
        t.row("gone", "0 -1", () -> t.x.place(0), () -> t.x.place(1));
        t.x.repack(4);
        t.missing("purged", () -> t.x.place(1));
        t.missing("no document", () -> t.x.place(5));
        t.missing("no document", () -> t.x.place(-1));
    }

    private static void inside() {
        Tester t = five("30 inside");
        t.x.repack(2);
        t.due("without a question", t.x.inside(0, 0), 0);
        t.ask("a -e");
        t.row("a: 0 1, 2 3, 4", "666 500 0", () -> t.x.inside(0, 0), () -> t.x.inside(0, 1), () -> t.x.inside(0, 2));
        t.row("b: 0 3", "500", () -> t.x.inside(1, 0));
        t.row("c: 0 1, 2 3", "666 500", () -> t.x.inside(2, 0), () -> t.x.inside(2, 1));
        t.x.remove(1);
        t.due("gone", t.x.inside(0, 0), 500);
        t.missing("no block", () -> t.x.inside(0, 3));
        t.missing("block -1", () -> t.x.inside(0, -1));
        t.missing("no word", () -> t.x.inside(5, 0));
        t.missing("far off", () -> t.x.inside(0, Integer.MAX_VALUE));
        t.x.remove(4);
        t.x.repack(2);
        t.missing("no postings, no block", () -> t.x.inside(4, 0));
    }

    private static void full() {
        Tester t = five("35 full");
        t.due("without a question", t.x.full(), 0);
        t.ask("a c");
        t.due("all of them", t.x.full(), 4);
        t.ask("a b zz");
        t.due("known ones", t.x.full(), 2);
        t.ask("c -a");
        t.due("match or not", t.x.full(), 4);
        t.x.remove(0);
        t.due("not those gone", t.x.full(), 3);
        t.x.repack(4);
        t.due("nor purged", t.x.full(), 3);
        t.ask("zz");
        t.due("no scored words", t.x.full(), 0);
    }

    private static void points() {
        Tester t = five("39 points");
        t.due("without a question", t.x.points(0, 0), -1);
        t.ask("a^2 b^3 ~3 -c");
        t.row("points", "1000 3000 666 3000 0 -1 -1", () -> t.x.points(0, 0), () -> t.x.points(0, 1),
            () -> t.x.points(3, 0), () -> t.x.points(3, 1), () -> t.x.points(4, 1), () -> t.x.points(0, 2),
            () -> t.x.points(0, -1));
        t.missing("no document", () -> t.x.points(5, 0));
        t.missing("ahead of none", () -> t.x.points(-1, 9));
        t.x.remove(0);
        t.due("gone", t.x.points(0, 1), 3000);
        t.x.repack(4);
        t.missing("purged", () -> t.x.points(0, 1));
    }

    private static void phrase() {
        Tester t = Tester.with("40 phrase", "a a a b a b", "b a", "a b c d a b c d", "a");
        t.due("without a question", t.x.phrase(0, 0), -1);
        t.ask("\"a b\" c \"a a\" \"a b c d\" \"b zz\"");
        t.row("a b", "2 0 2 0", () -> t.x.phrase(0, 0), () -> t.x.phrase(1, 0), () -> t.x.phrase(2, 0),
            () -> t.x.phrase(3, 0));
        t.row("a a", "2 0 0 0", () -> t.x.phrase(0, 1), () -> t.x.phrase(1, 1), () -> t.x.phrase(2, 1),
            () -> t.x.phrase(3, 1));
        t.row("a b c d", "0 2 0", () -> t.x.phrase(0, 2), () -> t.x.phrase(2, 2), () -> t.x.phrase(3, 2));
        t.row("one word not known", "0 0", () -> t.x.phrase(0, 3), () -> t.x.phrase(1, 3));
        t.row("none such", "-1 -1 -1", () -> t.x.phrase(0, 4), () -> t.x.phrase(0, -1),
            () -> t.x.phrase(0, Integer.MIN_VALUE));
        t.missing("no document", () -> t.x.phrase(4, 0));
        t.missing("ahead of none", () -> t.x.phrase(-1, 9));
        t.x.remove(0);
        t.due("gone", t.x.phrase(0, 0), 2);
        t.ask("a b");
        t.due("another question", t.x.phrase(0, 0), -1);
        t.x.repack(4);
        t.missing("purged", () -> t.x.phrase(0, 0));
    }

    private static void without() {
        Tester t = five("42 without");
        t.due("without a question", t.x.without(1, 0), -1);
        t.ask("b a");
        // scores: 0: 1000+500, 1: 666, 2: 500, 3: 1000+333, 4: 500; without b: 1 0 2 4 3; without a: 0 3
        t.row("without b", "1 1 1 1 0", () -> t.x.without(1, 0), () -> t.x.without(2, 0), () -> t.x.without(3, 0),
            () -> t.x.without(4, 0), () -> t.x.without(5, 0));
        t.row("without a", "0 0 1 2 3 3", () -> t.x.without(1, 1), () -> t.x.without(2, 1), () -> t.x.without(3, 1),
            () -> t.x.without(4, 1), () -> t.x.without(5, 1), () -> t.x.without(10, 1));
        t.row("none such", "-1 -1", () -> t.x.without(1, 2), () -> t.x.without(1, -1));
        t.illegal("0", () -> t.x.without(0, 0));
        t.illegal("11", () -> t.x.without(11, 0));
        t.illegal("ahead of none", () -> t.x.without(0, 9));
        t.ask("a");
        t.row("the only one", "3 5", () -> t.x.without(3, 0), () -> t.x.without(9, 0));
        t.ask("+b a");
        // must stays: 0 and 3 are matches with and without
        t.row("must stays", "0 0", () -> t.x.without(1, 0), () -> t.x.without(2, 0));
        Tester u = Tester.with("42 near", "a x x x c b", "a c x x x b", "b");
        u.ask("a b c ~9");
        // near: 0: 250 and 450, 1: 250 and 300; without b a and c are one behind the other: 300, 450
        u.row("near", "700 550 0", () -> u.x.near(0), () -> u.x.near(1), () -> u.x.answer(0, 0));
        u.row("without b", "1 0 1", () -> u.x.without(1, 1), () -> u.x.without(2, 1), () -> u.x.without(3, 1));
        u.x.remove(0);
        u.row("not those gone", "0 1", () -> u.x.without(1, 1), () -> u.x.without(2, 1));
    }
}
