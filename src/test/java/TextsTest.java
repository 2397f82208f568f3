/** Promises 1 to 8: a new object, the TAPE, texts and their FAULTS, DOCUMENTS taken away and purged. */
final class TextsTest {
    public static void main(String[] args) {
        newObject();
        feed();
        add();
        documentFaults();
        wordLimits();
        documentLimit();
        ask();
        questionFaults();
        fault();
        find();
        remove();
        repack();
        Tester.end("texts");
    }

    private static void newObject() {
        Tester t = new Tester("1 new");
        int[] told = {0, 0, 0, 0, 0, 0, 4, 0, 0, 0};
        for (int what = 0; what < told.length; what++) {
            t.due("told " + what, t.x.told(what), told[what]);
        }
        t.due("NONE", EarlyAnswers.NONE, -1);
        t.row("asked", "-1 0 0 2 -1 0 0 0", t.x::fault, t.x::answers, t.x::full, t.x::thrift, () -> t.x.best(3, 0),
            () -> t.x.spread(0), () -> t.x.early(10, 2), () -> t.x.swift(10, 1));
        t.row("refused", "0 0 -1 -1", () -> t.x.status(0), () -> t.x.status(1), () -> t.x.status(2),
            () -> t.x.status(-1));
        t.missing("common(0)", () -> t.x.common(0));
        t.missing("at(0, 0)", () -> t.x.at(0, 0));
        t.due("add(0)", t.x.add(0), -9);
        t.due("ask(0)", t.x.ask(0), -9);
        t.due("find(0)", t.x.find(0), -1);
    }

    private static void feed() {
        Tester t = new Tester("2 feed");
        for (int bytes = 20; bytes <= 300; bytes += 20) {
            t.due("feed", t.x.feed(0x61626364, 0x65666768, 0x20202020, 0x20202020, 0x2020207a), bytes);
        }
        t.due("feed beyond 300", t.x.feed(0, 0, 0, 0, 0), -1);
        t.due("feed beyond 300", t.x.feed(1, 2, 3, 4, 5), -1);
        // highest byte first, and each twenty behind the ones before: abcdefgh, blanks, z joined to the next a
        t.due("add(20)", t.x.add(20), 0);
        t.row("words", "2 0 7 25", () -> t.x.document(0, 0), () -> t.x.letter(0, 0), () -> t.x.letter(0, 7),
            () -> t.x.letter(1, 0));
        t.due("feed on an empty tape", t.x.feed(-1, 0, 0, 0, 0), 20);
        t.due("add of byte 255", t.x.add(4), -9);
        t.due("fault of byte 255", t.x.fault(), 0);
        Tester u = new Tester("2 feed joins");
        u.x.feed(0x20202020, 0x20202020, 0x20202020, 0x20202020, 0x20206162);
        u.due("feed", u.x.feed(0x63642020, 0, 0, 0, 0), 40);
        u.due("add(24)", u.x.add(24), 0);
        u.row("one word", "1 4", () -> u.x.document(0, 0), () -> u.x.word(0, 6));
    }

    private static void add() {
        Tester t = new Tester("3 add");
        t.due("add", t.add("b a b"), 0);
        t.due("blanks", t.add("   a    c  "), 1);
        t.row("positions", "0 1 0 -1 1 2 -1", () -> t.x.at(0, 0), () -> t.x.at(0, 1), () -> t.x.at(0, 2),
            () -> t.x.at(0, 3), () -> t.x.at(1, 0), () -> t.x.at(1, 1), () -> t.x.at(1, 2));
        t.due("the rest of the tape is dropped", t.feed("q"), 20);
        t.illegal("add(-1)", () -> t.x.add(-1));
        t.illegal("add(21)", () -> t.x.add(21));
        t.illegal("add(greatest)", () -> t.x.add(Integer.MAX_VALUE));
        t.due("the tape stays", t.x.add(1), 2);
        t.illegal("an empty tape", () -> t.x.add(1));
        t.due("told(9)", t.x.told(9), 3);
        t.due("a fault", t.add("new words!"), -9);
        t.row("all stays", "3 4 3 -9", () -> t.x.told(0), () -> t.x.told(2), () -> t.x.told(9), () -> t.x.add(0));
        t.due("numbers go on", t.add("d"), 3);
        t.due("and words", t.find("d"), 4);
        Tester u = new Tester("3 add of 150 words");
        u.due("150 words", u.add("a ".repeat(150)), 0);
        u.row("150", "150 149 -1 797", () -> u.x.document(0, 0), () -> u.x.position(0, 0, 149),
            () -> u.x.position(0, 0, 150), () -> u.x.word(0, 3));
    }

    private static void documentFaults() {
        String[] texts = {"", " ", "A", "a1", "a b\0", "abcdefghi", "abcdefgh i", "abcdefghI", "abcdefghij!",
            "a\u00e9", "{", "`", "a  -", "ab\tc", "a abcdefghi!", "a! abcdefghi"};
        int[] kinds = {-9, -9, -9, -9, -9, -9, 0, -9, -9, -9, -9, -9, -9, -9, -9, -9};
        int[] places = {0, 1, 0, 1, 3, 8, -1, 8, 8, 1, 0, 0, 3, 2, 10, 1};
        Tester t = new Tester("3 faults");
        for (int i = 0; i < texts.length; i++) {
            t.due("add " + texts[i], t.add(texts[i]), kinds[i]);
            t.due("fault of " + texts[i], t.x.fault(), places[i]);
        }
        t.row("only one came", "1 2", () -> t.x.told(0), () -> t.x.told(2));
    }

    /** Two letters a WORD, another one for each number. */
    private static String wordsFrom(int from, int to) {
        StringBuilder text = new StringBuilder();
        for (int i = from; i < to; i++) {
            text.append((char) ('a' + i / 26)).append((char) ('a' + i % 26)).append(' ');
        }
        return text.toString();
    }

    private static void wordLimits() {
        Tester t = new Tester("3 known words");
        t.due("100", t.add(wordsFrom(0, 100)), 0);
        t.due("200", t.add(wordsFrom(100, 200)), 1);
        t.due("254", t.add(wordsFrom(200, 254)), 2);
        t.due("two more are one too many", t.add("aa xxx yyy"), -8);
        t.row("at its first letter", "7 254", t.x::fault, () -> t.x.told(2));
        t.due("a bad sign behind it comes later", t.add("xxx yyy!"), -8);
        t.due("at its first letter", t.x.fault(), 4);
        t.due("one that stands twice is one", t.add("xxx aa xxx"), 3);
        t.due("known", t.x.told(2), 255);
        t.due("all known ones are fine", t.add("aa xxx ab"), 4);
        t.due("the 256th", t.add("aa z"), -8);
        t.due("its place", t.x.fault(), 3);
        t.due("nine letters are another fault", t.add("aa abcdefghi"), -9);
        t.due("its place", t.x.fault(), 11);
        t.due("eight letters", t.add("aa abcdefgh"), -8);
        t.due("its place", t.x.fault(), 3);
        t.due("a bad sign ahead", t.add("aa ! zz"), -9);
        t.due("its place", t.x.fault(), 3);
        t.due("the last one", t.find("xxx"), 254);
    }

    private static void documentLimit() {
        Tester t = new Tester("3 numbers");
        for (int i = 0; i < 64; i++) {
            t.due("add", t.add("a"), i);
        }
        t.feed("b");
        t.illegal("a 65th", () -> t.x.add(1));
        t.illegal("a 65th with a fault", () -> t.x.add(0));
        t.due("the tape stays", t.x.find(1), -1);
        t.x.remove(3);
        t.x.repack(4);
        t.feed("b");
        t.illegal("numbers stay given", () -> t.x.add(1));
        t.row("told", "63 64", () -> t.x.told(0), () -> t.x.told(9));
        t.row("word", "63 1 1", () -> t.x.word(0, 0), () -> t.x.word(0, 4), () -> t.x.spread(63));
        t.missing("the 65th", () -> t.x.document(64, 0));
    }

    private static void ask() {
        Tester t = Tester.with("4 ask", "a b c d", "e f");
        t.due("ask", t.ask("b zz a b"), 2);
        t.row("in order", "1 2 0 1 -1", () -> t.x.scored(0, 0), () -> t.x.scored(0, 1), () -> t.x.scored(1, 0),
            () -> t.x.scored(1, 1), () -> t.x.scored(2, 0));
        t.feed("c d ");
        t.illegal("ask(-1)", () -> t.x.ask(-1));
        t.illegal("ask(21)", () -> t.x.ask(21));
        t.due("the tape stays", t.x.ask(3), 2);
        t.due("empty then", t.feed("a"), 20);
        t.due("a fault", t.x.ask(2), -9);
        t.row("the question stays", "2 2 3", () -> t.x.told(7), () -> t.x.scored(0, 0), () -> t.x.scored(1, 0));
        String longest = "a" + " ".repeat(118) + "b";
        t.due("120 bytes", t.ask(longest), 2);
        t.feed(longest + " ");
        t.illegal("121 bytes", () -> t.x.ask(121));
        t.due("the tape stays", t.x.ask(120), 2);
        t.due("all kinds, no blanks", t.ask("a^2+b-c\"d e\"~3f"), 5);
        t.row("parts", "6 2 1 1 1 1", () -> t.x.told(8), () -> t.x.scored(0, 1), () -> t.x.scored(1, 2),
            () -> t.x.scored(2, 2), () -> t.x.scored(3, 2), () -> t.x.scored(4, 1));
        t.due("only not", t.ask("-a"), 0);
        t.due("only nearness", t.ask("~9"), 0);
        t.due("one part", t.x.told(8), 1);
        t.due("boosts and phrases together", t.ask("a^9 \"a a b\" +a^2 a"), 2);
        t.row("boosts", "14 1 1 1", () -> t.x.scored(0, 1), () -> t.x.scored(0, 2), () -> t.x.scored(1, 1),
            () -> t.x.scored(1, 2));
        t.due("words asked do not become known", t.x.told(2), 6);
        t.due("24 scored words at most", t.ask("\"a b c d\"\"a b c d\"\" e f \"\"f e\"\"a f\"\"d c b a\""), 6);
        t.due("six parts", t.x.told(8), 6);
    }

    private static void questionFaults() {
        String[] texts = {" ", "   ", "^", "a^", "a^a", "a^0", "a ^2", "a^2^3", "+", "+ a", "+^", "+\"a b\"", "++a",
            "-", "-a^1", "- a", "--a", "\"", "\"\"", "\"a\"", "\"a", "\"a b", "\"a b ", "\"a b!\"", "\"a b^2\"",
            "\"+a b\"", "\"a b c d e\"", "\"a b c d \"", "~", "~0", "~ 1", "~1~2", "~12", "a~1 ~", "abcdefghi",
            "+abcdefghi", "-abcdefghi", "\"a abcdefghi\"", "abcdefgh", "A", "a,b", "1", "a b c d e f g",
            "a b c d e f +", "a b c d e f \"", "a b c d e f -", "a b c d e f ~", "a b c d ~1 f ~", "a b c d e f !",
            "a b c d e f^", "a b c d e f^3", "a b c d e f  ", "\"a b c d abcdefghi\"", "a\0"};
        int[] kinds = {1, 1, 1, 1, 1, 1, 1, 1, 1, 1, 1, 1, 1, 1, 1, 1, 1, 1, 1, 1, 1, 1, 1, 1, 1,
            1, 2, 0, 1, 1, 1, 1, 1, 1, 1, 1, 1, 1, 0, 1, 1, 1, 2, 2, 2, 2, 2, 1, 1, 1, 0, 0, 2, 1};
        int[] places = {1, 3, 0, 2, 2, 2, 2, 3, 1, 1, 1, 1, 1, 1, 2, 1, 1, 1, 1, 2, 2, 4, 5, 4, 4,
            1, 9, -1, 1, 1, 1, 2, 2, 4, 8, 9, 9, 11, -1, 0, 1, 0, 12, 12, 12, 12, 12, 13, 12, 12, -1, -1, 9, 1};
        for (int i = 0; i < texts.length; i++) {
            Tester t = Tester.with("4 faults", "a b c d e f g");
            int due = kinds[i] == 0 ? 0 : kinds[i] - 10;
            int got = t.ask(texts[i]);
            t.due("ask " + texts[i], Math.min(got, 0), due);
            t.due("fault of " + texts[i], t.x.fault(), places[i]);
            t.due("parts of " + texts[i], Math.min(t.x.told(8), 1), kinds[i] == 0 ? 1 : 0);
        }
    }

    private static void fault() {
        Tester t = new Tester("5 fault");
        t.due("none yet", t.x.fault(), -1);
        t.add("ab?");
        t.due("of add", t.x.fault(), 2);
        t.find("?");
        t.due("find is none", t.x.fault(), 2);
        t.illegal("refused", () -> t.x.add(99));
        t.due("a call that is refused is no text", t.x.fault(), 2);
        t.ask("~");
        t.due("of ask", t.x.fault(), 1);
        t.ask("a");
        t.due("without", t.x.fault(), -1);
        t.ask("a!");
        t.due("of ask", t.x.fault(), 1);
        t.add("a");
        t.due("without", t.x.fault(), -1);
    }

    private static void find() {
        Tester t = Tester.with("6 find", "abc ab abcdefgh a");
        t.row("known", "0 1 2 3", () -> t.find("abc"), () -> t.find("ab"), () -> t.find("abcdefgh"), () -> t.find("a"));
        t.row("none", "-1 -1 -1 -1 -1 -1 -1", () -> t.find("b"), () -> t.find("abcdefg"), () -> t.find("abcdefghi"),
            () -> t.find(" a"), () -> t.find("a "), () -> t.find("A"), () -> t.x.find(0));
        t.feed("abcd");
        t.illegal("find(-1)", () -> t.x.find(-1));
        t.illegal("find(21)", () -> t.x.find(21));
        t.due("the tape stays", t.x.find(3), 0);
        t.illegal("empty then", () -> t.x.find(1));
        t.feed("a");
        t.due("find(0) empties too", t.x.find(0), -1);
        t.illegal("empty", () -> t.x.find(1));
        t.add("new!");
        t.due("a word of a text with a fault", t.find("new"), -1);
    }

    private static void remove() {
        Tester t = Tester.with("7 remove", "a b", "a", "a c");
        t.due("remove(1)", t.x.remove(1), 1);
        t.missing("again", () -> t.x.remove(1));
        t.missing("-1", () -> t.x.remove(-1));
        t.missing("3", () -> t.x.remove(3));
        t.missing("greatest", () -> t.x.remove(Integer.MAX_VALUE));
        t.row("it counts on", "3 1 3 3 1", () -> t.x.told(0), () -> t.x.told(1), () -> t.x.word(0, 0),
            () -> t.x.told(9), () -> t.x.document(1, 2));
        t.ask("a");
        t.row("it is no match", "2 1 -1 0", t.x::answers, () -> t.x.why(1), () -> t.x.place(1), () -> t.x.place(0));
        t.due("remove(0)", t.x.remove(0), 2);
        t.x.repack(3);
        t.due("purged ones are not counted", t.x.remove(2), 1);
        t.missing("purged", () -> t.x.remove(0));
    }

    private static void repack() {
        Tester t = Tester.with("8 repack", "a b", "a", "a c", "a b", "a");
        t.illegal("1", () -> t.x.repack(1));
        t.illegal("9", () -> t.x.repack(9));
        t.illegal("-2", () -> t.x.repack(-2));
        t.due("4 stays", t.x.told(6), 4);
        t.x.remove(0);
        t.illegal("0", () -> t.x.repack(0));
        t.due("it is still there", t.x.document(0, 2), 1);
        t.x.remove(2);
        t.due("two are purged", t.x.repack(2), 2);
        t.row("told", "3 0 3 4 3 2 5", () -> t.x.told(0), () -> t.x.told(1), () -> t.x.told(2), () -> t.x.told(3),
            () -> t.x.told(4), () -> t.x.told(6), () -> t.x.told(9));
        t.missing("purged", () -> t.x.document(0, 0));
        t.row("lists", "1 3 4 3 0 1", () -> t.x.posting(0, 0, 0), () -> t.x.posting(0, 1, 0),
            () -> t.x.posting(0, 2, 0), () -> t.x.posting(1, 0, 0), () -> t.x.word(2, 0), () -> t.x.word(2, 6));
        t.due("words stay known", t.find("c"), 2);
        t.due("nothing to purge", t.x.repack(8), 0);
        t.due("size", t.x.told(6), 8);
        t.due("numbers go on", t.add("c"), 5);
        t.row("the word has a list again", "1 5 3", () -> t.x.word(2, 0), () -> t.x.posting(2, 0, 0),
            () -> t.x.word(2, 4));
    }
}
