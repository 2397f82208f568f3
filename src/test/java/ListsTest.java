/** Promises 9 to 18, 31, 32, 34 and 36 to 38: what is told of DOCUMENTS, WORDS, LISTS and BLOCKS. */
final class ListsTest {
    public static void main(String[] args) {
        told();
        document();
        at();
        word();
        rare();
        letter();
        block();
        posting();
        position();
        common();
        alike();
        bits();
        thrift();
        blockOf();
        spread();
        nearest();
        rarest();
        Tester.end("lists");
    }

    /** a 0, b 1, c 2, d 3: five DOCUMENTS, of which c stands in one, d in none but the last. */
    private static Tester five(String name) {
        return Tester.with(name, "a b a", "b a", "a a a a a b", "c a b b", "a d");
    }

    private static void told() {
        Tester t = five("9 told");
        t.x.repack(3);
        t.x.remove(1);
        t.ask("a -b \"a b\" ~2");
        // lists: a 0 1 2 3 4, b 0 1 2 3, c 3, d 4
        t.row("told", "5 1 4 11 6", () -> t.x.told(0), () -> t.x.told(1), () -> t.x.told(2), () -> t.x.told(3),
            () -> t.x.told(4));
        t.row("told", "3 2 4 5", () -> t.x.told(6), () -> t.x.told(7), () -> t.x.told(8), () -> t.x.told(9));
        t.due("bits", t.x.told(5), t.x.word(0, 5) + t.x.word(1, 5) + t.x.word(2, 5) + t.x.word(3, 5));
        t.illegal("told(10)", () -> t.x.told(10));
        t.illegal("told(-1)", () -> t.x.told(-1));
        t.illegal("told(least)", () -> t.x.told(Integer.MIN_VALUE));
    }

    private static void document() {
        Tester t = five("10 document");
        t.row("0", "3 2 0 0 2", () -> t.x.document(0, 0), () -> t.x.document(0, 1), () -> t.x.document(0, 2),
            () -> t.x.document(0, 3), () -> t.x.document(0, 4));
        t.row("of alike ones the lesser", "0 1", () -> t.x.document(1, 3), () -> t.x.document(1, 4));
        t.row("3", "4 3 0 1 2", () -> t.x.document(3, 0), () -> t.x.document(3, 1), () -> t.x.document(3, 2),
            () -> t.x.document(3, 3), () -> t.x.document(3, 4));
        t.x.remove(2);
        t.row("gone, too", "6 2 1 0 5", () -> t.x.document(2, 0), () -> t.x.document(2, 1), () -> t.x.document(2, 2),
            () -> t.x.document(2, 3), () -> t.x.document(2, 4));
        t.illegal("what 5", () -> t.x.document(2, 5));
        t.illegal("what -1", () -> t.x.document(2, -1));
        t.missing("no such one, ahead of what", () -> t.x.document(5, 5));
        t.missing("-1", () -> t.x.document(-1, 0));
        t.x.repack(4);
        t.missing("purged", () -> t.x.document(2, 0));
        t.due("others stay", t.x.document(3, 1), 3);
    }

    private static void at() {
        Tester t = five("11 at");
        t.row("3", "2 0 1 1 -1 -1", () -> t.x.at(3, 0), () -> t.x.at(3, 1), () -> t.x.at(3, 2), () -> t.x.at(3, 3),
            () -> t.x.at(3, 4), () -> t.x.at(3, -1));
        t.row("far off", "-1 -1", () -> t.x.at(0, Integer.MAX_VALUE), () -> t.x.at(0, Integer.MIN_VALUE));
        t.missing("no document", () -> t.x.at(5, 0));
        t.missing("no document", () -> t.x.at(-1, 0));
        t.x.remove(3);
        t.due("gone", t.x.at(3, 0), 2);
        t.x.repack(2);
        t.missing("purged", () -> t.x.at(3, 0));
    }

    private static void word() {
        Tester t = five("12 word");
        // gains of a: 2000/3, 1000/2, 5000/7, 1000/3, 1000/2; of b: 500 500 333 2000/4
        t.row("a", "5 10 2 714 1 1", () -> t.x.word(0, 0), () -> t.x.word(0, 1), () -> t.x.word(0, 2),
            () -> t.x.word(0, 3), () -> t.x.word(0, 4), () -> t.x.word(0, 6));
        t.row("b", "4 5 1 500 1", () -> t.x.word(1, 0), () -> t.x.word(1, 1), () -> t.x.word(1, 2),
            () -> t.x.word(1, 3), () -> t.x.word(1, 4));
        t.row("c", "1 1 1 333 3", () -> t.x.word(2, 0), () -> t.x.word(2, 1), () -> t.x.word(2, 2),
            () -> t.x.word(2, 3), () -> t.x.word(2, 4));
        // a: gaps 1 (1 bit), counts up to 5 (3), gaps of positions up to 2 (2), 4 postings with 9 positions; then 1 posting
        t.due("bits of a", t.x.word(0, 5), 32 + 4 * 4 + 9 * 2 + 32 + 3);
        t.illegal("what 7", () -> t.x.word(0, 7));
        t.illegal("what -1", () -> t.x.word(0, -1));
        t.missing("no word, ahead of what", () -> t.x.word(4, 7));
        t.missing("-1", () -> t.x.word(-1, 0));
        t.x.remove(3);
        t.row("gone ones count", "1 1 3", () -> t.x.word(2, 0), () -> t.x.word(2, 1), () -> t.x.word(2, 4));
        t.x.repack(2);
        t.row("without postings", "0 0 0 0 0 0 1", () -> t.x.word(2, 0), () -> t.x.word(2, 1), () -> t.x.word(2, 2),
            () -> t.x.word(2, 3), () -> t.x.word(2, 4), () -> t.x.word(2, 5), () -> t.x.word(2, 6));
    }

    private static void rare() {
        Tester t = new Tester("12 rare");
        for (int i = 0; i < 64; i++) {
            t.add(i == 5 ? "a once" : i % 21 == 0 ? "a some" : i < 33 ? "a many" : "a");
        }
        // once 64 by 1, some 64 by 4, many 64 by 30, a 64 by 64
        t.row("rare", "7 5 2 1", () -> t.x.word(t.find("once"), 4), () -> t.x.word(t.find("some"), 4),
            () -> t.x.word(t.find("many"), 4), () -> t.x.word(t.find("a"), 4));
        for (int i = 0; i < 34; i++) {
            if (i != 5) {
                t.x.remove(i);
            }
        }
        t.due("with those gone", t.x.word(t.find("once"), 4), 7);
        t.x.repack(4);
        // 31 documents there are: 31, 15, 7, 3, 1
        t.due("without those purged", t.x.word(t.find("once"), 4), 5);
    }

    private static void letter() {
        Tester t = Tester.with("13 letter", "z abcdefgh az");
        t.row("z", "25 -1 -1", () -> t.x.letter(0, 0), () -> t.x.letter(0, 1), () -> t.x.letter(0, -1));
        t.row("abcdefgh", "0 1 2 6 7 -1", () -> t.x.letter(1, 0), () -> t.x.letter(1, 1), () -> t.x.letter(1, 2),
            () -> t.x.letter(1, 6), () -> t.x.letter(1, 7), () -> t.x.letter(1, 8));
        t.row("az", "0 25 -1", () -> t.x.letter(2, 0), () -> t.x.letter(2, 1), () -> t.x.letter(2, 2));
        t.row("far off", "-1 -1", () -> t.x.letter(1, Integer.MAX_VALUE), () -> t.x.letter(1, Integer.MIN_VALUE));
        t.missing("no word", () -> t.x.letter(3, 0));
        t.missing("no word", () -> t.x.letter(-1, 0));
    }

    private static void block() {
        Tester t = five("14 block");
        t.x.repack(2);
        t.row("a 0", "0 1 2 666 44 1 2 2", () -> t.x.block(0, 0, 0), () -> t.x.block(0, 0, 1),
            () -> t.x.block(0, 0, 2), () -> t.x.block(0, 0, 3), () -> t.x.block(0, 0, 4),
            () -> t.x.block(0, 0, 5), () -> t.x.block(0, 0, 6), () -> t.x.block(0, 0, 7));
        t.row("a 1", "2 3 2 714 52 1 3 2", () -> t.x.block(0, 1, 0), () -> t.x.block(0, 1, 1),
            () -> t.x.block(0, 1, 2), () -> t.x.block(0, 1, 3), () -> t.x.block(0, 1, 4), () -> t.x.block(0, 1, 5),
            () -> t.x.block(0, 1, 6), () -> t.x.block(0, 1, 7));
        t.row("a 2, with fewer", "4 4 1 500 35", () -> t.x.block(0, 2, 0), () -> t.x.block(0, 2, 1),
            () -> t.x.block(0, 2, 2), () -> t.x.block(0, 2, 3), () -> t.x.block(0, 2, 4));
        t.row("c: its first gap is the document and 1", "3 3 1 333 37 3 1 1", () -> t.x.block(2, 0, 0),
            () -> t.x.block(2, 0, 1), () -> t.x.block(2, 0, 2), () -> t.x.block(2, 0, 3),
            () -> t.x.block(2, 0, 4), () -> t.x.block(2, 0, 5), () -> t.x.block(2, 0, 6),
            () -> t.x.block(2, 0, 7));
        t.illegal("what 8", () -> t.x.block(0, 0, 8));
        t.illegal("what -1", () -> t.x.block(0, 0, -1));
        t.missing("no block, ahead of what", () -> t.x.block(0, 3, 8));
        t.missing("block -1", () -> t.x.block(0, -1, 0));
        t.missing("no word", () -> t.x.block(4, 0, 0));
        t.missing("far off", () -> t.x.block(0, Integer.MAX_VALUE, 0));
        t.x.remove(1);
        t.x.remove(2);
        t.due("gone ones stay in it", t.x.block(0, 1, 0), 2);
        t.x.repack(2);
        t.row("purged: 0 3, 4", "0 3 2 2 4 4", () -> t.x.block(0, 0, 0), () -> t.x.block(0, 0, 1),
            () -> t.x.block(0, 0, 2), () -> t.x.block(0, 0, 5), () -> t.x.block(0, 1, 0), () -> t.x.block(0, 1, 1));
        t.due("the gap goes to the block ahead", t.x.block(0, 1, 5), 1);
    }

    private static void posting() {
        Tester t = five("15 posting");
        t.x.repack(3);
        t.row("documents of b", "0 1 2 3", () -> t.x.posting(1, 0, 0), () -> t.x.posting(1, 1, 0),
            () -> t.x.posting(1, 2, 0), () -> t.x.posting(1, 3, 0));
        t.row("b in 3", "2 500 1", () -> t.x.posting(1, 3, 1), () -> t.x.posting(1, 3, 2), () -> t.x.posting(1, 3, 3));
        t.row("b in 2", "1 333 0", () -> t.x.posting(1, 2, 1), () -> t.x.posting(1, 2, 2), () -> t.x.posting(1, 2, 3));
        t.row("a in 2", "5 714 0", () -> t.x.posting(0, 2, 1), () -> t.x.posting(0, 2, 2), () -> t.x.posting(0, 2, 3));
        t.illegal("what 4", () -> t.x.posting(0, 0, 4));
        t.illegal("what -1", () -> t.x.posting(0, 0, -1));
        t.missing("no posting, ahead of what", () -> t.x.posting(1, 4, 4));
        t.missing("posting -1", () -> t.x.posting(1, -1, 0));
        t.missing("no word", () -> t.x.posting(4, 0, 0));
        Tester u = Tester.with("15 gain", "a b c", "a b c d", "a a a a a a a b");
        u.row("a quarter, cut", "500 333 700", () -> u.x.posting(0, 0, 2), () -> u.x.posting(0, 1, 2),
            () -> u.x.posting(0, 2, 2));
    }

    private static void position() {
        Tester t = five("16 position");
        t.row("a in 0", "0 2 -1 -1", () -> t.x.position(0, 0, 0), () -> t.x.position(0, 0, 1),
            () -> t.x.position(0, 0, 2), () -> t.x.position(0, 0, -1));
        t.row("b in 3", "2 3 -1", () -> t.x.position(1, 3, 0), () -> t.x.position(1, 3, 1),
            () -> t.x.position(1, 3, 2));
        t.missing("no posting", () -> t.x.position(1, 4, 0));
        t.missing("posting -1", () -> t.x.position(1, -1, 0));
        t.missing("no word", () -> t.x.position(4, 0, 0));
    }

    private static void common() {
        Tester t = Tester.with("17 common", "c a", "b a", "b c d", "d");
        // c 0: 2, a 1: 2, b 2: 2, d 3: 2
        t.row("alike", "0 1 2 3", () -> t.x.common(0), () -> t.x.common(1), () -> t.x.common(2), () -> t.x.common(3));
        t.add("b d");
        t.add("d d d");
        t.row("most first", "3 2 0 1", () -> t.x.common(0), () -> t.x.common(1), () -> t.x.common(2),
            () -> t.x.common(3));
        t.x.remove(0);
        t.due("gone ones count", t.x.common(2), 0);
        t.x.remove(1);
        t.x.repack(4);
        t.row("none are last", "3 2 0 1", () -> t.x.common(0), () -> t.x.common(1), () -> t.x.common(2),
            () -> t.x.common(3));
        t.missing("common(4)", () -> t.x.common(4));
        t.missing("common(-1)", () -> t.x.common(-1));
    }

    private static void alike() {
        Tester t = five("18 alike");
        t.row("alike", "2 2 1 3 1", () -> t.x.alike(0, 2), () -> t.x.alike(2, 3), () -> t.x.alike(3, 4),
            () -> t.x.alike(3, 3), () -> t.x.alike(4, 0));
        t.missing("first", () -> t.x.alike(5, 0));
        t.missing("second", () -> t.x.alike(0, 5));
        t.missing("second", () -> t.x.alike(0, -1));
        t.x.remove(2);
        t.due("gone", t.x.alike(0, 2), 2);
        t.x.repack(4);
        t.missing("purged", () -> t.x.alike(0, 2));
    }

    private static void bits() {
        Tester t = five("31 bits");
        // a 44 and 52 and 35, b 40 and 47, c 37, d 38
        t.row("by 2", "293 4", () -> t.x.bits(2), () -> t.x.told(6));
        t.due("by its own size", t.x.bits(4), t.x.told(5));
        int eight = t.x.bits(8);
        t.x.remove(0);
        t.due("gone ones count", t.x.bits(8), eight);
        t.due("nothing is purged", t.x.told(0), 5);
        t.x.repack(8);
        t.due("purged", t.x.bits(8), t.x.told(5));
        t.illegal("1", () -> t.x.bits(1));
        t.illegal("9", () -> t.x.bits(9));
        t.illegal("-1", () -> t.x.bits(-1));
    }

    private static void thrift() {
        Tester t = five("32 thrift");
        int least = 2;
        for (int size = 3; size <= 8; size++) {
            least = t.x.bits(size) < t.x.bits(least) ? size : least;
        }
        t.row("five", least + " 4", t.x::thrift, () -> t.x.told(6));
        t.due("five is packed best by", least, 5);
        Tester u = Tester.with("32 one", "a");
        u.due("of alike ones the least", u.x.thrift(), 2);
        u.add("a");
        u.add("a");
        u.due("three postings", u.x.thrift(), 3);
        // a count of 64 or more makes each of its block 6 bits dearer; a block more costs 32
        Tester v = Tester.with("32 uneven", "a", "a", "a", "a", "a", "a", "a ".repeat(64), "a ".repeat(64));
        v.due("the dear ones by themselves", v.x.thrift(), 6);
    }

    private static void blockOf() {
        Tester t = Tester.with("34 blockOf", "b", "a", "b", "a", "b", "a", "a", "b", "a", "b");
        t.x.repack(2);
        // a 1: 1 3, 5 6, 8; b 0: 0 2, 4 7, 9
        t.row("a", "-1 0 0 0 -1 1 1 -1 2 -1", () -> t.x.blockOf(1, 0), () -> t.x.blockOf(1, 1),
            () -> t.x.blockOf(1, 2), () -> t.x.blockOf(1, 3), () -> t.x.blockOf(1, 4), () -> t.x.blockOf(1, 5),
            () -> t.x.blockOf(1, 6), () -> t.x.blockOf(1, 7), () -> t.x.blockOf(1, 8), () -> t.x.blockOf(1, 9));
        t.row("b", "0 -1 1 1 2", () -> t.x.blockOf(0, 1), () -> t.x.blockOf(0, 3), () -> t.x.blockOf(0, 5),
            () -> t.x.blockOf(0, 6), () -> t.x.blockOf(0, 9));
        t.missing("no word", () -> t.x.blockOf(2, 0));
        t.missing("no word", () -> t.x.blockOf(-1, 0));
        t.missing("no document", () -> t.x.blockOf(0, 10));
        t.missing("no document", () -> t.x.blockOf(0, -1));
    }

    private static void spread() {
        Tester t = five("36 spread");
        t.row("spread", "0 2 0 0 1 1 0 0", () -> t.x.spread(0), () -> t.x.spread(1), () -> t.x.spread(2),
            () -> t.x.spread(3), () -> t.x.spread(4), () -> t.x.spread(5), () -> t.x.spread(6), () -> t.x.spread(64));
        t.x.remove(3);
        t.due("gone ones count", t.x.spread(1), 2);
        t.x.repack(4);
        t.row("purged", "1 1 0 1 1", () -> t.x.spread(0), () -> t.x.spread(1), () -> t.x.spread(2),
            () -> t.x.spread(3), () -> t.x.spread(4));
        t.illegal("65", () -> t.x.spread(65));
        t.illegal("-1", () -> t.x.spread(-1));
    }

    private static void nearest() {
        Tester t = Tester.with("37 nearest", "a b");
        t.due("no other one", t.x.nearest(0), -1);
        t.add("c");
        t.due("nothing in both", t.x.nearest(0), 1);
        t.add("a a a");
        t.add("b a c");
        t.add("a b");
        t.row("nearest", "3 3 0 0 0", () -> t.x.nearest(0), () -> t.x.nearest(1), () -> t.x.nearest(2),
            () -> t.x.nearest(3), () -> t.x.nearest(4));
        t.x.remove(3);
        t.row("gone or not", "3 0", () -> t.x.nearest(0), () -> t.x.nearest(3));
        t.x.repack(4);
        t.due("purged", t.x.nearest(0), 4);
        t.missing("purged", () -> t.x.nearest(3));
        t.missing("no document", () -> t.x.nearest(5));
        t.missing("no document", () -> t.x.nearest(-1));
    }

    private static void rarest() {
        Tester t = Tester.with("38 rarest", "a b c", "a b c c", "a b d d e", "a b", "f e d b");
        // a 4, b 5, c 2, d 2, e 2, f 1 of 5: rare 1 1 2 2 2 3
        t.row("rarest", "2 2 3 0 5", () -> t.x.rarest(0), () -> t.x.rarest(1), () -> t.x.rarest(2),
            () -> t.x.rarest(3), () -> t.x.rarest(4));
        t.add("e e d b b b");
        // of 6: d 3, e 3
        t.row("the most often", "4 0", () -> t.x.rarest(5), () -> t.x.rarest(3));
        t.x.remove(3);
        t.due("gone", t.x.rarest(3), 0);
        t.x.repack(4);
        t.missing("purged", () -> t.x.rarest(3));
        t.missing("no document", () -> t.x.rarest(6));
        t.missing("no document", () -> t.x.rarest(-1));
    }
}
