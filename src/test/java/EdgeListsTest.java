/**
 * The edges that "Terms" names for LISTS, BLOCKS, GAIN, RARE and BITS, and those of promises 9 to 18, 31, 32, 34 and
 * 36 to 38: each sentence just inside its edge, at it, and just beyond it.
 */
final class EdgeListsTest {
    private static final int LEAST = Integer.MIN_VALUE;
    private static final int GREATEST = Integer.MAX_VALUE;

    public static void main(String[] args) {
        blocksOfEachSize();
        mostBlocks();
        quarterOfTheWords();
        gainIsCut();
        topWhereverItStands();
        rareByHalves();
        sharesAreCut();
        goneOnesCountUntilPurged();
        widthOfDocumentGaps();
        widthOfCounts();
        widthOfPositionGaps();
        gapsGoOnFromBlockToBlock();
        mostWords();
        told();
        document();
        mostOften();
        at();
        word();
        withoutPostings();
        letter();
        block();
        posting();
        position();
        common();
        alike();
        bits();
        thrift();
        blockOf();
        spread();
        nearest();
        rarest();
        Tester.end("edges of lists");
    }

    private static String times(int count, String word) {
        return (word + " ").repeat(count);
    }

    /** "cut into BLOCKS of SIZE (2 to 8; 4 at first) POSTINGS, from its first one on; the last may have fewer". */
    private static void blocksOfEachSize() {
        String[] texts = new String[9];
        // WORD 0 stands in one DOCUMENT, WORD 1 in the first two, .. WORD 8 in nine
        for (int d = 0; d < 9; d++) {
            texts[d] = "a b c d e f g h i ".substring(2 * d);
        }
        Tester t = Tester.with("9 BLOCKS", texts);
        t.each("4 at first", "1 1 1 1 2 2 2 2 3", w -> t.x.word(w, 2), 0, 1, 2, 3, 4, 5, 6, 7, 8);
        for (int size = 2; size <= 8; size++) {
            int s = size;
            t.x.repack(s);
            // SIZE less 1, SIZE, SIZE and 1 POSTINGS
            t.each("blocks by " + s, "1 1 2", w -> t.x.word(w, 2), s - 2, s - 1, s);
            t.each("postings of the first", s - 1 + " " + s + " " + s, w -> t.x.block(w, 0, 2), s - 2, s - 1, s);
            t.each("documents", "0 " + (s - 1) + " " + s + " " + s, what -> t.x.block(s, what / 2, what % 2), 0, 1, 2, 3);
            t.row("the last may have fewer", "1 missing missing", () -> t.x.block(s, 1, 2),
                () -> t.x.block(s - 1, 1, 2), () -> t.x.block(s, 2, 2));
            t.each("blocks of postings", "0 1 missing", k -> t.x.posting(s, k, 3), s - 1, s, s + 1);
        }
    }

    /** 64 POSTINGS are the most there can be: 32 BLOCKS by 2, 8 by 8. */
    private static void mostBlocks() {
        Tester t = new Tester("14 most BLOCKS");
        for (int i = 0; i < 64; i++) {
            t.add("a");
        }
        t.due("by 4", t.x.word(0, 2), 16);
        t.x.repack(2);
        t.row("by 2", "32 62 63 2 missing", () -> t.x.word(0, 2), () -> t.x.block(0, 31, 0),
            () -> t.x.block(0, 31, 1), () -> t.x.block(0, 31, 2), () -> t.x.block(0, 32, 0));
        t.each("blocks of postings", "0 0 1 31 31 missing", k -> t.x.posting(0, k, 3), 0, 1, 2, 62, 63, 64);
        t.x.repack(8);
        t.row("by 8", "8 56 63 8 missing", () -> t.x.word(0, 2), () -> t.x.block(0, 7, 0), () -> t.x.block(0, 7, 1),
            () -> t.x.block(0, 7, 2), () -> t.x.block(0, 8, 0));
        t.x.repack(7);
        t.row("by 7", "10 63 63 1 missing", () -> t.x.word(0, 2), () -> t.x.block(0, 9, 0),
            () -> t.x.block(0, 9, 1), () -> t.x.block(0, 9, 2), () -> t.x.block(0, 10, 0));
    }

    /** "a quarter (cut) of how many WORDS the DOCUMENT has": from 0 to 37. */
    private static void quarterOfTheWords() {
        int[] words = {1, 3, 4, 7, 8, 11, 12, 147, 148, 150};
        Tester t = new Tester("15 a quarter (cut)");
        for (int n : words) {
            t.add("a " + times(n - 1, "b"));
        }
        // 1000 by 2, 2, 3, 3, 4, 4, 5, 38, 39, 39
        t.each("gain", "500 500 333 333 250 250 200 26 25 25", k -> t.x.posting(0, k, 2), 0, 1, 2, 3, 4, 5, 6, 7, 8, 9);
    }

    /** "COUNT times 1,000, by COUNT and 1 and a quarter .., cut": the COUNTS 1 to 150. */
    private static void gainIsCut() {
        int[] words = {2, 3, 4, 4, 7, 8, 149, 150};
        int[] counts = {2, 3, 4, 3, 7, 8, 149, 150};
        Tester t = new Tester("15 GAIN");
        for (int i = 0; i < words.length; i++) {
            t.add(times(counts[i], "a") + times(words[i] - counts[i], "b"));
        }
        // 2000 by 3, 3000 by 4, 4000 by 6, 3000 by 5, 7000 by 9, 8000 by 11, 149000 by 187, 150000 by 188
        t.each("gain", "666 750 666 600 777 727 796 797", k -> t.x.posting(0, k, 2), 0, 1, 2, 3, 4, 5, 6, 7);
        t.each("count", "2 3 4 3 7 8 149 150", k -> t.x.posting(0, k, 1), 0, 1, 2, 3, 4, 5, 6, 7);
    }

    /** "TOP of a BLOCK, of a LIST: the greatest GAIN in it", first, in between, last. */
    private static void topWhereverItStands() {
        Tester t = Tester.with("14 TOP", "a a", "a", "a x x x", "a", "a a a", "a x x x", "a x x x", "a", "a a");
        t.x.repack(3);
        t.each("of blocks", "666 750 666", b -> t.x.block(0, b, 3), 0, 1, 2);
        t.due("of the list", t.x.word(0, 3), 750);
        t.x.remove(4);
        t.row("gone ones count", "750 750", () -> t.x.block(0, 1, 3), () -> t.x.word(0, 3));
        t.x.repack(3);
        t.each("purged", "666 500 666", b -> t.x.block(0, b, 3), 0, 1, 2);
        t.due("of the list", t.x.word(0, 3), 666);
    }

    /** "can be halved (cut) until it is 1": 1 is not halved, 2 and 3 once, 4 to 7 twice .. 64 six times. */
    private static void rareByHalves() {
        int[] documents = {1, 2, 3, 4, 7, 8, 15, 16, 31, 32, 63, 64};
        int[] rare = {1, 2, 2, 3, 3, 4, 4, 5, 5, 6, 6, 7};
        Tester t = new Tester("12 RARE");
        t.add("z");
        for (int i = 0; i < documents.length; i++) {
            while (t.x.told(0) < documents[i]) {
                t.add("y");
            }
            t.due("rare of one by " + documents[i], t.x.word(0, 4), rare[i]);
        }
        t.due("63 of 64", t.x.word(1, 4), 1);
    }

    /** "the number of DOCUMENTS there are by that of its POSTINGS (cut)". */
    private static void sharesAreCut() {
        int[] documents = {3, 5, 6, 8, 9, 11, 12, 23, 24};
        int[] rare = {1, 1, 2, 2, 2, 2, 3, 3, 4};
        Tester t = Tester.with("12 shares (cut)", "z", "z", "z");
        for (int i = 0; i < documents.length; i++) {
            while (t.x.told(0) < documents[i]) {
                t.add("y");
            }
            t.due("rare of three by " + documents[i], t.x.word(0, 4), rare[i]);
        }
    }

    /** "(DOCUMENTS that are GONE, and POSTINGS of these, count, until they are PURGED.)" */
    private static void goneOnesCountUntilPurged() {
        Tester t = Tester.with("12 GONE, PURGED", "a", "a b", "a", "b c", "b c c");
        // a 5 by 3, b 5 by 3, c 5 by 2
        t.each("rare", "1 1 2", w -> t.x.word(w, 4), 0, 1, 2);
        t.x.remove(0);
        t.x.remove(4);
        t.each("gone: rare", "1 1 2", w -> t.x.word(w, 4), 0, 1, 2);
        t.each("gone: postings", "3 3 2", w -> t.x.word(w, 0), 0, 1, 2);
        t.each("gone: how often", "3 3 3", w -> t.x.word(w, 1), 0, 1, 2);
        t.x.repack(4);
        // a 3 by 2, b 3 by 2, c 3 by 1
        t.each("purged: rare", "1 1 2", w -> t.x.word(w, 4), 0, 1, 2);
        t.each("purged: postings", "2 2 1", w -> t.x.word(w, 0), 0, 1, 2);
        t.each("purged: how often", "2 2 1", w -> t.x.word(w, 1), 0, 1, 2);
        t.add("d");
        // a 4 by 2, b 4 by 2, c 4 by 1, d 4 by 1
        t.each("one more", "2 2 3 3", w -> t.x.word(w, 4), 0, 1, 2, 3);
    }

    /**
     * "as many bits as the greatest of such numbers has", 0: "its DOCUMENT and 1", 1 to 64. "(of 0: 0)" cannot be
     * reached: each of these numbers is 1 at least.
     */
    private static void widthOfDocumentGaps() {
        Tester t = new Tester("14 WIDTH 0");
        for (int d = 0; d < 64; d++) {
            t.add("w" + (char) ('a' + d / 26) + (char) ('a' + d % 26));
        }
        t.each("width", "1 2 2 3 3 4 4 5 5 6 6 7", w -> t.x.block(w, 0, 5), 0, 1, 2, 3, 6, 7, 14, 15, 30, 31, 62, 63);
        // each 32, the width, and 1 and 1 for COUNT and POSITION
        t.each("bits", "35 36 37 41", w -> t.x.block(w, 0, 4), 0, 1, 3, 63);
        // 32 and 2 for each, 1 of 1 bit, 2 of 2, 4 of 3, 8 of 4, 16 of 5, 32 of 6, one of 7
        t.due("all", t.x.told(5), 64 * 34 + 1 + 4 + 12 + 32 + 80 + 192 + 7);
    }

    /** 1 COUNTS, 1 to 150. */
    private static void widthOfCounts() {
        int[] counts = {1, 2, 3, 4, 7, 8, 15, 16, 31, 32, 63, 64, 127, 128, 150};
        Tester t = new Tester("14 WIDTH 1");
        for (int i = 0; i < counts.length; i++) {
            t.add(times(counts[i], "" + (char) ('a' + i)));
        }
        t.each("width", "1 2 2 3 3 4 4 5 5 6 6 7 7 8 8", w -> t.x.block(w, 0, 6), 0, 1, 2, 3, 4, 5, 6, 7, 8, 9, 10, 11,
            12, 13, 14);
        // 32, DOCUMENT 14 and 1 of 4 bits, 150 of 8, 150 POSITIONS of 1 bit
        t.row("bits", "194 1", () -> t.x.block(14, 0, 4), () -> t.x.block(14, 0, 7));
    }

    /** 2 GAPS of POSITIONS, "each less the one ahead of it in the POSTING (the first: itself and 1)". */
    private static void widthOfPositionGaps() {
        int[] positions = {0, 1, 2, 3, 6, 7, 14, 15, 30, 31, 62, 63, 126, 127, 149};
        Tester t = new Tester("14 WIDTH 2, the first");
        t.add("z");
        for (int i = 0; i < positions.length; i++) {
            t.add(times(positions[i], "z") + (char) ('a' + i));
        }
        t.each("width", "1 2 2 3 3 4 4 5 5 6 6 7 7 8 8", w -> t.x.block(w, 0, 7), 1, 2, 3, 4, 5, 6, 7, 8, 9, 10, 11,
            12, 13, 14, 15);
        int[] gaps = {1, 2, 3, 4, 7, 8, 127, 128, 149};
        Tester u = new Tester("14 WIDTH 2, the others");
        u.add("z");
        for (int i = 0; i < gaps.length; i++) {
            String letter = "" + (char) ('a' + i);
            u.add(letter + " " + times(gaps[i] - 1, "z") + letter);
        }
        u.each("width", "1 2 2 3 3 4 7 8 8", w -> u.x.block(w, 0, 7), 1, 2, 3, 4, 5, 6, 7, 8, 9);
        // 32, DOCUMENT 9 and 1 of 4 bits, COUNT 2 of 2, two POSITIONS of 8
        u.due("bits", u.x.block(9, 0, 4), 32 + 4 + 2 + 16);
        Tester v = Tester.with("14 WIDTH 2 of more postings", "a z z z a", "a a", "z a");
        // 32, three of 1 and 2, five of 3
        v.row("the greatest of all", "3 56", () -> v.x.block(0, 0, 7), () -> v.x.block(0, 0, 4));
        Tester w = Tester.with("14 WIDTH 2, the greatest ahead", "a b b", "c d d d c c");
        // GAPS of b 2 1, of c 1 4 1, of d 2 1 1
        w.each("width", "1 2 3 2", word -> w.x.block(word, 0, 7), 0, 1, 2, 3);
        // c: 32, DOCUMENT 1 and 1 of 2 bits, COUNT 3 of 2, three POSITIONS of 3
        w.due("bits", w.x.block(2, 0, 4), 32 + 2 + 2 + 9);
    }

    /** "0 GAPS of a POSTING: its DOCUMENT less the one of the POSTING ahead of it in the LIST", over the BLOCK's edge. */
    private static void gapsGoOnFromBlockToBlock() {
        Tester t = new Tester("14 GAPS over BLOCKS");
        for (int d = 0; d < 64; d++) {
            t.add(d == 0 || d == 5 || d == 20 || d == 21 || d == 63 ? "a" : "b");
        }
        t.x.repack(2);
        // 1 5, 15 1, 42
        t.each("width 0", "3 4 6", b -> t.x.block(0, b, 5), 0, 1, 2);
        // two POSTINGS of 3 and 1, two POSITIONS of 1 bit; the last one has fewer
        t.each("bits", "42 44 40", b -> t.x.block(0, b, 4), 0, 1, 2);
        t.x.remove(5);
        t.x.remove(20);
        t.each("gone ones count", "3 4 6", b -> t.x.block(0, b, 5), 0, 1, 2);
        t.x.repack(2);
        // 1 21, 42
        t.each("purged ones do not", "5 6", b -> t.x.block(0, b, 5), 0, 1);
        t.x.remove(0);
        t.x.repack(2);
        // 22 42
        t.each("another first one", "6 missing", b -> t.x.block(0, b, 5), 0, 1);
    }

    /** 255 WORDS are known: all that goes through WORDS goes up to the last one. */
    private static void mostWords() {
        StringBuilder[] texts = {new StringBuilder(), new StringBuilder(), new StringBuilder()};
        for (int w = 0; w < 255; w++) {
            texts[w / 90].append((char) ('a' + w / 26)).append((char) ('a' + w % 26)).append(' ');
        }
        Tester t = Tester.with("12 most WORDS", texts[0].toString(), texts[1].toString(), texts[2].toString());
        // POSITIONS and 1 of 1 to 90: 510 bits, of 1 to 75: 405; each BLOCK 32, 1 or 2 for its DOCUMENT, 1 for COUNT
        int bits = 90 * 34 + 510 + 90 * 35 + 510 + 75 * 35 + 405;
        t.row("told", "255 255 255 " + bits, () -> t.x.told(2), () -> t.x.told(3), () -> t.x.told(4), () -> t.x.told(5));
        t.row("by size", bits + " 2 255", () -> t.x.bits(8), t.x::thrift, () -> t.x.spread(1));
        t.each("common", "0 254 missing", t.x::common, 0, 254, 255);
        t.row("the last document", "75 75 180 1 180 75 0 0", () -> t.x.document(2, 0), () -> t.x.document(2, 1),
            () -> t.x.document(2, 3), () -> t.x.document(2, 4), () -> t.x.rarest(2), () -> t.x.alike(2, 2),
            () -> t.x.alike(2, 0), () -> t.x.nearest(2));
        t.x.remove(2);
        t.due("purged", t.x.repack(2), 1);
        t.row("told", "255 180 75", () -> t.x.told(2), () -> t.x.told(3), () -> t.x.spread(0));
        t.each("common", "179 180 254 missing", t.x::common, 179, 180, 254, 255);
    }

    private static void told() {
        Tester t = new Tester("9 told");
        t.each("of a new object", "illegal 0 0 illegal illegal illegal", t.x::told, -1, 0, 9, 10, GREATEST, LEAST);
        t.add("a b a");
        // a: 32, 1 and 2, two of 2; b: 32, 1 and 1, one of 2
        t.each("of one document", "1 0 2 2 2 75 4 0 0 1", t.x::told, 0, 1, 2, 3, 4, 5, 6, 7, 8, 9);
    }

    private static void document() {
        Tester t = Tester.with("10 document", "b a a b", "a", "c b a");
        t.each("documents", "missing 4 3 missing missing missing", d -> t.x.document(d, 0), -1, 0, 2, 3, GREATEST,
            LEAST);
        t.each("what", "illegal 4 2 0 0 2 illegal illegal illegal", what -> t.x.document(0, what), -1, 0, 1, 2, 3, 4, 5,
            GREATEST, LEAST);
        t.row("of alike ones the lesser number", "0 0 2 1", () -> t.x.document(2, 3), () -> t.x.document(0, 3),
            () -> t.x.at(2, 0), () -> t.x.document(2, 4));
        t.each("no such one comes ahead of what", "missing missing", d -> t.x.document(d, 5), -1, 3);
        t.x.remove(0);
        t.each("gone, too", "1 0 0", d -> t.x.document(d, 2), 0, 1, 2);
        t.due("gone: what it was", t.x.document(0, 4), 2);
        t.x.repack(4);
        t.each("not purged", "missing 0 0", d -> t.x.document(d, 2), 0, 1, 2);
        t.each("purged comes ahead of what", "missing", d -> t.x.document(d, -1), 0);
    }

    /** "3 the WORD it has most often, of alike ones the lesser number, 4 how often that". */
    private static void mostOften() {
        Tester t = Tester.with("10 most often", "a b c", "c c b a", "b b a a c", "b c b", "c", "c b b c", "c b");
        t.each("word", "0 2 0 1 2 1 1", d -> t.x.document(d, 3), 0, 1, 2, 3, 4, 5, 6);
        t.each("how often", "1 2 2 2 1 2 1", d -> t.x.document(d, 4), 0, 1, 2, 3, 4, 5, 6);
        t.each("unlike ones", "3 3 3 2 1 2 2", d -> t.x.document(d, 1), 0, 1, 2, 3, 4, 5, 6);
    }

    private static void at() {
        Tester t = Tester.with("11 at", "a b c", "c");
        t.each("positions of three", "-1 -1 0 1 2 -1 -1", p -> t.x.at(0, p), LEAST, -1, 0, 1, 2, 3, GREATEST);
        t.each("positions of one", "-1 2 -1", p -> t.x.at(1, p), -1, 0, 1);
        t.each("documents", "missing missing missing", d -> t.x.at(d, 0), -1, 2, GREATEST);
        t.each("no document comes ahead of no position", "missing missing", d -> t.x.at(d, -1), -1, 2);
        t.x.remove(0);
        t.each("gone", "0 -1", p -> t.x.at(0, p), 0, 3);
        t.x.repack(4);
        t.each("purged", "missing missing", p -> t.x.at(0, p), 0, 3);
    }

    private static void word() {
        Tester t = new Tester("12 word");
        t.each("none known", "missing missing missing", w -> t.x.word(w, 0), -1, 0, 1);
        t.add("a bbbbbbbb a");
        t.each("words", "missing 1 1 missing missing missing", w -> t.x.word(w, 0), -1, 0, 1, 2, GREATEST, LEAST);
        // a: COUNT 2 of 2 bits, DOCUMENT 0 and 1, POSITIONS 1, 2 of 2 bits
        t.each("what", "illegal 1 2 1 666 1 39 1 illegal illegal illegal", what -> t.x.word(0, what), -1, 0, 1, 2, 3, 4,
            5, 6, 7, GREATEST, LEAST);
        t.each("no such one comes ahead of what", "missing missing", w -> t.x.word(w, 7), -1, 2);
    }

    /** "(0 both without POSTINGS)". */
    private static void withoutPostings() {
        Tester t = Tester.with("12 without POSTINGS", "a bb", "a");
        t.x.remove(0);
        // BITS 32, 1 and 1, and POSITION 1 of 2
        t.each("gone: there is one still", "1 1 1 500 2 36 2", what -> t.x.word(1, what), 0, 1, 2, 3, 4, 5, 6);
        t.x.repack(4);
        t.each("purged", "0 0 0 0 0 0 2 illegal", what -> t.x.word(1, what), 0, 1, 2, 3, 4, 5, 6, 7);
        t.row("no block, no posting", "missing missing missing missing", () -> t.x.block(1, 0, 0),
            () -> t.x.posting(1, 0, 0), () -> t.x.position(1, 0, 0), () -> t.x.inside(1, 0));
        t.row("its letters stay", "1 1 -1", () -> t.x.letter(1, 0), () -> t.x.letter(1, 1), () -> t.x.letter(1, 2));
        t.each("no block has a document", "-1", d -> t.x.blockOf(1, d), 1);
    }

    private static void letter() {
        Tester t = Tester.with("13 letter", "a zyxwvuts mn");
        t.each("of one", "-1 -1 0 -1 -1", k -> t.x.letter(0, k), LEAST, -1, 0, 1, GREATEST);
        t.each("of eight", "-1 25 24 23 22 21 20 19 18 -1 -1", k -> t.x.letter(1, k), -1, 0, 1, 2, 3, 4, 5, 6, 7, 8, 9);
        t.each("of two", "-1 12 13 -1", k -> t.x.letter(2, k), -1, 0, 1, 2);
        t.each("words", "missing missing missing missing", w -> t.x.letter(w, 0), -1, 3, GREATEST, LEAST);
        t.each("no word comes ahead of no letter", "missing missing", w -> t.x.letter(w, -1), -1, 3);
    }

    private static void block() {
        Tester t = Tester.with("14 block", "a b", "a", "a", "a", "a");
        t.each("blocks", "missing 0 4 missing missing missing", b -> t.x.block(0, b, 0), -1, 0, 1, 2, GREATEST, LEAST);
        t.each("words", "missing 0 0 missing missing", w -> t.x.block(w, 0, 0), -1, 0, 1, 2, LEAST);
        // 4 POSTINGS of 1 and 1, 4 POSITIONS of 1
        t.each("what", "illegal 0 3 4 500 44 1 1 1 illegal illegal", what -> t.x.block(0, 0, what), -1, 0, 1, 2, 3, 4, 5,
            6, 7, 8, LEAST);
        t.each("no block comes ahead of what", "missing missing", b -> t.x.block(0, b, 8), -1, 2);
        t.each("no word comes ahead of what", "missing missing", w -> t.x.block(w, 0, 8), -1, 2);
    }

    private static void posting() {
        Tester t = Tester.with("15 posting", "a b", "b", "a", "a");
        t.each("postings", "missing 0 2 3 missing missing missing", k -> t.x.posting(0, k, 0), -1, 0, 1, 2, 3, GREATEST,
            LEAST);
        t.each("words", "missing 0 0 missing", w -> t.x.posting(w, 0, 0), -1, 0, 1, 2);
        t.each("what", "illegal 3 1 500 0 illegal illegal", what -> t.x.posting(0, 2, what), -1, 0, 1, 2, 3, 4,
            GREATEST);
        t.each("no posting comes ahead of what", "missing missing", k -> t.x.posting(0, k, 4), -1, 3);
        t.x.remove(2);
        t.each("gone ones stay in it", "0 2 3 missing", k -> t.x.posting(0, k, 0), 0, 1, 2, 3);
        t.x.repack(2);
        t.each("purged ones do not", "0 3 missing", k -> t.x.posting(0, k, 0), 0, 1, 2);
    }

    private static void position() {
        Tester t = Tester.with("16 position", "a b a a", "b");
        t.each("positions", "-1 -1 0 2 3 -1 -1", i -> t.x.position(0, 0, i), LEAST, -1, 0, 1, 2, 3, GREATEST);
        t.each("postings", "missing 1 0 missing missing", k -> t.x.position(1, k, 0), -1, 0, 1, 2, GREATEST);
        t.each("words", "missing missing missing", w -> t.x.position(w, 0, 0), -1, 2, LEAST);
        t.each("no posting comes ahead of no position", "missing missing", k -> t.x.position(0, k, -1), -1, 1);
        Tester u = Tester.with("16 of 150", times(150, "a"));
        u.each("positions", "0 149 -1", i -> u.x.position(0, 0, i), 0, 149, 150);
    }

    private static void common() {
        Tester t = new Tester("17 common");
        t.each("none known", "missing missing", t.x::common, -1, 0);
        t.add("c");
        t.each("one known", "missing 0 missing", t.x::common, -1, 0, 1);
        t.add("b a");
        t.add("a d");
        // c 1, b 1, a 2, d 1
        t.each("four", "missing 2 0 1 3 missing missing missing", t.x::common, -1, 0, 1, 2, 3, 4, GREATEST, LEAST);
        t.x.remove(0);
        t.each("gone ones count", "2 0 1 3 missing", t.x::common, 0, 1, 2, 3, 4);
        t.x.repack(4);
        t.each("without postings: the last", "2 1 3 0 missing", t.x::common, 0, 1, 2, 3, 4);
        Tester u = new Tester("17 most there can be");
        for (int i = 0; i < 64; i++) {
            u.add(i == 0 ? "b a" : "a");
        }
        u.each("64 postings", "1 0 missing", u.x::common, 0, 1, 2);
    }

    private static void alike() {
        Tester t = Tester.with("18 alike", "a b a", "c", "b c a");
        t.each("with the first", "missing 2 0 2 missing missing", d -> t.x.alike(0, d), -1, 0, 1, 2, 3, GREATEST);
        t.each("with the last", "missing 2 1 3 missing missing", d -> t.x.alike(d, 2), -1, 0, 1, 2, 3, LEAST);
        t.each("both are none", "missing missing", d -> t.x.alike(d, d), -1, 3);
        t.x.remove(2);
        t.each("gone", "2 1 3", d -> t.x.alike(2, d), 0, 1, 2);
        t.x.repack(4);
        t.each("purged", "missing missing 0", d -> t.x.alike(1, d), 2, 3, 0);
        t.each("purged", "missing missing", d -> t.x.alike(2, d), 0, 2);
    }

    private static void bits() {
        Tester t = new Tester("31 bits");
        t.each("nothing to pack", "illegal 0 0 illegal", t.x::bits, 1, 2, 8, 9);
        for (int i = 0; i < 9; i++) {
            t.add("a");
        }
        // nine POSTINGS of 3 bits; 5, 3, 3, 2, 2, 2, 2 BLOCKS of 32
        t.each("sizes", "illegal 187 123 123 91 91 91 91 illegal", t.x::bits, 1, 2, 3, 4, 5, 6, 7, 8, 9);
        t.each("far off", "illegal illegal illegal illegal", t.x::bits, 0, -1, GREATEST, LEAST);
        t.x.remove(8);
        t.row("nothing is purged", "91 9 1 4", () -> t.x.bits(8), () -> t.x.told(0), () -> t.x.told(1),
            () -> t.x.told(6));
        t.x.repack(4);
        t.each("purged", "152 56", t.x::bits, 2, 8);
    }

    /** "SIZE (2 to 8) by which BITS of all are fewest, of alike ones the least". */
    private static void thrift() {
        // DOCUMENTS of one WORD: as few BLOCKS as there can be
        int[] documents = {0, 1, 2, 3, 7, 8, 9, 16, 17};
        int[] sizes = {2, 2, 2, 3, 7, 8, 5, 8, 6};
        for (int i = 0; i < documents.length; i++) {
            Tester t = new Tester("32 thrift of " + documents[i]);
            for (int d = 0; d < documents[i]; d++) {
                t.add("a");
            }
            t.row("thrift", sizes[i] + " 4", t.x::thrift, () -> t.x.told(6));
        }
        // two COUNTS of 64 make the others of their BLOCK dear
        Tester t = Tester.with("32 thrift in between", "a", "a", "a", "a", "a", "a", times(64, "a"), times(64, "a"));
        t.each("bits", "290 258 238 232 226 262 230", t.x::bits, 2, 3, 4, 5, 6, 7, 8);
        t.due("thrift", t.x.thrift(), 6);
    }

    private static void blockOf() {
        Tester t = Tester.with("34 blockOf", "b", "b", "a", "b", "a", "b", "a", "b", "a", "b", "a", "b");
        t.x.repack(2);
        // a: 2 4, 6 8, 10
        t.each("first, last, in and out", "-1 -1 0 0 0 -1 1 1 1 -1 2 -1", d -> t.x.blockOf(1, d), 0, 1, 2, 3, 4, 5, 6,
            7, 8, 9, 10, 11);
        t.each("no document", "missing missing missing missing", d -> t.x.blockOf(1, d), -1, 12, GREATEST, LEAST);
        t.each("no word", "missing missing missing missing", w -> t.x.blockOf(w, 0), -1, 2, GREATEST, LEAST);
        t.x.remove(4);
        t.each("gone", "0 0 -1", d -> t.x.blockOf(1, d), 3, 4, 5);
        t.x.repack(2);
        // a: 2 6, 8 10
        t.each("purged", "-1 0 0 missing 0 0 -1 1 1 1 -1", d -> t.x.blockOf(1, d), 1, 2, 3, 4, 5, 6, 7, 8, 9, 10, 11);
    }

    private static void spread() {
        Tester t = new Tester("36 spread");
        t.each("nothing known", "illegal 0 0 illegal", t.x::spread, -1, 0, 64, 65);
        for (int i = 0; i < 64; i++) {
            t.add(i == 63 ? "a c" : "a b");
        }
        t.each("postings", "illegal 0 1 0 1 1 illegal", t.x::spread, -1, 0, 1, 62, 63, 64, 65);
        t.each("far off", "illegal illegal", t.x::spread, GREATEST, LEAST);
        t.x.remove(63);
        t.each("gone ones count", "0 1 1 1", t.x::spread, 0, 1, 63, 64);
        t.x.repack(4);
        t.each("purged ones do not", "1 0 2 0", t.x::spread, 0, 1, 63, 64);
    }

    private static void nearest() {
        Tester t = new Tester("37 nearest");
        t.each("no documents", "missing missing", t.x::nearest, -1, 0);
        t.add("a b");
        t.each("no other one", "missing -1 missing", t.x::nearest, -1, 0, 1);
        t.add("c");
        t.each("none that is alike", "1 0 missing", t.x::nearest, 0, 1, 2);
        t.add("a c");
        t.add("b c");
        // 0: 2 and 3 by 1; 1: 2 and 3 by 1; 2: 0, 1, 3 by 1; 3: 0, 1, 2 by 1
        t.each("of alike ones the least", "2 2 0 0", t.x::nearest, 0, 1, 2, 3);
        t.each("far off", "missing missing", t.x::nearest, GREATEST, LEAST);
        t.x.remove(2);
        t.each("gone or not", "2 2 0 0", t.x::nearest, 0, 1, 2, 3);
        t.x.repack(4);
        t.each("purged", "3 3 missing 0", t.x::nearest, 0, 1, 2, 3);
        t.x.remove(0);
        t.x.remove(1);
        t.x.repack(4);
        t.each("the only one that is left", "missing missing missing -1", t.x::nearest, 0, 1, 2, 3);
        Tester u = Tester.with("37 nearest, most WORDS", "a b c", "a b", "a", "d", "a b c d");
        u.each("most", "4 0 0 4 0", u.x::nearest, 0, 1, 2, 3, 4);
    }

    private static void rarest() {
        Tester t = Tester.with("38 rarest", "a");
        t.each("the only word", "missing 0 missing", t.x::rarest, -1, 0, 1);
        t.add("a b c c b");
        t.add("a b c");
        t.add("a d b b c c");
        // of four: a 1, b 1, c 1, d 3
        t.each("rarest", "0 1 0 3", t.x::rarest, 0, 1, 2, 3);
        t.add("a");
        t.add("a");
        // of six: a 1, b 2, c 2, d 3
        t.each("rare, how often, number", "0 1 1 3 0 0 missing missing missing", t.x::rarest, 0, 1, 2, 3, 4, 5, 6,
            GREATEST, LEAST);
        t.add("c c b");
        t.add("a a a");
        // of eight: a 1, b 2, c 2, d 4: the one it has most often
        t.each("how often", "2 0", t.x::rarest, 6, 7);
        t.x.remove(3);
        t.each("gone", "3", t.x::rarest, 3);
        t.x.repack(4);
        t.each("purged", "missing", t.x::rarest, 3);
        Tester u = Tester.with("38 rarest, the lesser number", "r a", "a s s", "a r s r", "a", "a");
        // r 5 by 2, a 1, s 5 by 2
        u.each("the others do not come ahead", "0 2 0 1", u.x::rarest, 0, 1, 2, 3);
        Tester v = Tester.with("38 rarest, RARE ahead of how often", "r a a", "a a s", "a", "a");
        // r 4 by 1, a 1, s 4 by 1
        v.each("once, but rarer", "0 2 1 1", v.x::rarest, 0, 1, 2, 3);
    }
}
