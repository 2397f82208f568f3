/**
 * The edges that "Terms" names for the TAPE, DOCUMENTS and their FAULTS, and those of promises 1 to 8: each sentence
 * just inside its edge, at it, and just beyond it.
 */
final class EdgeTextsTest {
    private static final int LEAST = Integer.MIN_VALUE;
    private static final int GREATEST = Integer.MAX_VALUE;

    public static void main(String[] args) {
        tapeOf300();
        beyond300DoesNothing();
        highestByteFirst();
        numbersOfDocuments();
        refusedBeforeItIsRead();
        purgedNumbersAreNotGivenAgain();
        wordsOfADocument();
        lettersOfAWord();
        everySign();
        blanksAnywhere();
        noWordAtAll();
        firstFromTheLeft();
        knownWords();
        knownWordAndOtherFaults();
        aFaultChangesNothing();
        bytesOfAdd();
        bytesOfAsk();
        bytesOfFind();
        wordsFound();
        faultPlaces();
        removed();
        goneStaysGone();
        removedAll();
        sizes();
        refusedRepack();
        purged();
        Tester.end("edges of texts");
    }

    /** "The TAPE has up to 300 bytes." */
    private static void tapeOf300() {
        Tester t = new Tester("2 TAPE of 300");
        for (int bytes = 20; bytes <= 280; bytes += 20) {
            t.due("feed", t.x.feed(0, 0, 0, 0, 0), bytes);
        }
        t.row("280, 300, beyond", "300 -1 -1", () -> t.x.feed(0, 0, 0, 0, 0), () -> t.x.feed(0, 0, 0, 0, 0),
            () -> t.x.feed(LEAST, GREATEST, -1, 1, 0));
        t.each("bytes it has", "illegal -1 illegal", t.x::find, 301, 300, 1);
        t.due("empty again", t.x.feed(0, 0, 0, 0, 0), 20);
    }

    /** "NONE, doing nothing, if there would be more than 300." */
    private static void beyond300DoesNothing() {
        Tester t = new Tester("2 NONE, doing nothing");
        t.feed("b".repeat(8) + " ".repeat(291) + "c");
        t.due("one more", t.x.feed(0x61616161, 0x61616161, 0x61616161, 0x61616161, 0x61616161), -1);
        t.due("all 300 bytes are the first ones", t.x.add(300), 0);
        t.row("words", "2 1 2 8", () -> t.x.document(0, 0), () -> t.x.letter(0, 7), () -> t.x.letter(1, 0),
            () -> t.x.word(0, 6));
        t.row("not refused", "0 0", () -> t.x.status(0), () -> t.x.status(1));
    }

    /** "Twenty bytes come on the TAPE, of each number the highest first": each of the twenty, and the sign of a number. */
    private static void highestByteFirst() {
        Tester t = new Tester("2 the highest first");
        t.x.feed(0x61206220, 0x63206420, 0x65206620, 0x67206820, 0x69206a20);
        t.due("ten words", t.x.add(20), 0);
        t.row("in order", "10 0 1 2 3 8 9", () -> t.x.document(0, 0), () -> t.x.letter(0, 0), () -> t.x.letter(1, 0),
            () -> t.x.letter(2, 0), () -> t.x.letter(3, 0), () -> t.x.letter(8, 0), () -> t.x.letter(9, 0));
        // bytes 128 0 0 0, 127 255 255 255, 255 255 255 255: none of them is a letter or a blank
        int[] numbers = {LEAST, GREATEST, -1, 0, 1};
        for (int number : numbers) {
            t.x.feed(0x61616161, number, 0, 0, 0);
            t.due("byte behind four letters of " + number, t.x.add(8), -9);
            t.due("its place", t.x.fault(), 4);
        }
        // 225 is 'a' with the highest bit: a byte has no sign
        t.x.feed(0xe1e1e1e1, 0, 0, 0, 0);
        t.due("byte 225 is no letter", t.x.add(1), -9);
    }

    /** "A DOCUMENT (numbered from 0 on, 64 at most)", "64 numbers are given (the TAPE stays)". */
    private static void numbersOfDocuments() {
        Tester t = new Tester("3 numbered from 0 on, 64 at most");
        for (int i = 0; i < 62; i++) {
            t.due("add", t.add("a"), i);
        }
        t.row("the 63rd, the 64th", "62 63 64", () -> t.add("a"), () -> t.add("a"), () -> t.x.told(9));
        t.feed("b");
        t.illegal("the 65th", () -> t.x.add(1));
        t.row("nothing came", "64 64 1", () -> t.x.told(9), () -> t.x.told(0), () -> t.x.told(2));
        t.each("documents", "missing 0 0 missing missing missing", d -> t.x.at(d, 0), -1, 0, 63, 64, GREATEST, LEAST);
        t.due("the tape stays", t.feed(" "), 40);
    }

    /** What is refused is not read: no FAULT of it is told, and fault() stays. */
    private static void refusedBeforeItIsRead() {
        Tester t = new Tester("3 refused, not read");
        for (int i = 0; i < 64; i++) {
            t.add("a");
        }
        t.due("no fault", t.x.fault(), -1);
        t.feed("!");
        t.illegal("a text with a fault", () -> t.x.add(1));
        t.illegal("an empty text", () -> t.x.add(0));
        t.due("no fault", t.x.fault(), -1);
        t.due("a question is told all the same", t.x.ask(1), -9);
    }

    /** "64 numbers are given": "numbers stay", PURGED or not. */
    private static void purgedNumbersAreNotGivenAgain() {
        Tester t = new Tester("3 numbers stay");
        for (int i = 0; i < 63; i++) {
            t.add("a");
        }
        for (int i = 0; i < 63; i++) {
            t.x.remove(i);
        }
        t.due("purged", t.x.repack(4), 63);
        t.due("the 64th number", t.add("b"), 63);
        t.feed("b");
        t.illegal("there is no 65th", () -> t.x.add(1));
        t.row("told", "1 64 63", () -> t.x.told(0), () -> t.x.told(9), () -> t.x.posting(1, 0, 0));
    }

    /**
     * "WORDS, 1 to 150". A 151st cannot be told: 150 of them and the blanks between take 299 of the TAPE's 300 bytes,
     * and the last byte makes no WORD of its own without a blank ahead.
     */
    private static void wordsOfADocument() {
        Tester t = new Tester("3 WORDS, 1 to 150");
        t.row("0, 1, 2", "-9 0 1", () -> t.add(" "), () -> t.add("a"), () -> t.add("a a"));
        t.row("149", "2 149 -1", () -> t.add("a ".repeat(149)), () -> t.x.document(2, 0), () -> t.x.at(2, 149));
        t.row("150 in 299 bytes", "3 150 0 -1", () -> t.add("a ".repeat(149) + "a"), () -> t.x.document(3, 0),
            () -> t.x.at(3, 149), () -> t.x.at(3, 150));
        t.row("150, a blank behind", "4 150", () -> t.add("a ".repeat(150)), () -> t.x.document(4, 0));
        t.row("150, a blank ahead", "5 150", () -> t.add(" a".repeat(150)), () -> t.x.document(5, 0));
        t.row("150, the last of two letters", "6 150 1", () -> t.add("a ".repeat(149) + "aa"),
            () -> t.x.document(6, 0), () -> t.x.at(6, 149));
        t.row("a bad sign behind 149", "-9 298", () -> t.add("a ".repeat(149) + "!"), t.x::fault);
        t.row("a bad sign behind 150", "-9 299", () -> t.add("a ".repeat(149) + "a!"), t.x::fault);
    }

    /** "each of 1 to 8 small letters"; "a ninth letter of a WORD (at it)". */
    private static void lettersOfAWord() {
        Tester t = new Tester("3 1 to 8 small letters");
        t.row("1", "0 1", () -> t.add("h"), () -> t.x.word(0, 6));
        t.row("7", "1 7", () -> t.add("abcdefg"), () -> t.x.word(1, 6));
        t.row("8", "2 8", () -> t.add("abcdefgh"), () -> t.x.word(2, 6));
        t.row("9", "-9 8", () -> t.add("abcdefghi"), t.x::fault);
        t.row("10", "-9 8", () -> t.add("abcdefghij"), t.x::fault);
        t.row("300", "-9 8", () -> t.add("a".repeat(300)), t.x::fault);
        t.row("9 behind a blank", "-9 9", () -> t.add(" abcdefghi"), t.x::fault);
        t.row("9 behind 8", "-9 17", () -> t.add("abcdefgh abcdefghi"), t.x::fault);
        t.row("8 and 8", "3 2", () -> t.add("abcdefgh abcdefgh"), () -> t.x.document(3, 0));
        t.row("8 and a blank", "4 1", () -> t.add("abcdefgh "), () -> t.x.document(4, 0));
        t.row("8 and another sign", "-9 8", () -> t.add("abcdefgh!"), t.x::fault);
        t.row("words of zs and as", "5 4", () -> t.add("zzzzzzzz aaaaaaaa z a"), () -> t.x.document(5, 1));
        t.row("all letters alike are words of their own", "3 4 5 6 -1", () -> t.find("zzzzzzzz"),
            () -> t.find("aaaaaaaa"), () -> t.find("z"), () -> t.find("a"), () -> t.find("aaaaaaa"));
    }

    /** "1 what is no small letter, no blank": each of the 256 signs between two letters. */
    private static void everySign() {
        for (int from = 0; from < 256; from += 32) {
            Tester t = new Tester("3 every sign");
            for (int sign = from; sign < from + 32; sign++) {
                boolean fine = sign == 32 || sign >= 97 && sign <= 122;
                int number = t.add("b" + (char) sign + "c");
                t.due("add with sign " + sign, Math.min(number, 0), fine ? 0 : -9);
                t.due("fault of sign " + sign, t.x.fault(), fine ? -1 : 1);
                t.due("find with sign " + sign, t.find("q" + (char) sign), -1);
            }
            t.due("documents", t.x.told(9), from == 32 ? 1 : from == 96 ? 26 : 0);
        }
    }

    /** "blanks (32), as many as you like, between, ahead and behind". */
    private static void blanksAnywhere() {
        Tester t = new Tester("3 blanks");
        String many = " ".repeat(149);
        String[] texts = {"a b", "a  b", " a b", "a b ", many + "a" + many + "b", "a" + many + many + "b",
            many + many + "ab"};
        for (int i = 0; i < texts.length; i++) {
            t.due("add", t.add(texts[i]), i);
            t.due("words", t.x.document(i, 0), i < 6 ? 2 : 1);
            t.due("first word", t.x.at(i, 0), i < 6 ? 0 : 2);
        }
    }

    /** "the end, if there is no WORD (at the length)". */
    private static void noWordAtAll() {
        Tester t = new Tester("3 no WORD");
        t.row("0 bytes", "-9 0", () -> t.add(""), t.x::fault);
        t.row("1 byte", "-9 1", () -> t.add(" "), t.x::fault);
        t.row("299 bytes", "-9 299", () -> t.add(" ".repeat(299)), t.x::fault);
        t.row("300 bytes", "-9 300", () -> t.add(" ".repeat(300)), t.x::fault);
        t.row("a word at the last byte", "0 -1", () -> t.add(" ".repeat(299) + "a"), t.x::fault);
        t.row("a word at the first byte", "1 -1", () -> t.add("a" + " ".repeat(299)), t.x::fault);
        t.row("another fault comes first", "-9 299", () -> t.add(" ".repeat(299) + "."), t.x::fault);
    }

    /** "FAULTS of a DOCUMENT, the first from the left". */
    private static void firstFromTheLeft() {
        Tester t = new Tester("3 the first from the left");
        String[] texts = {"!!", "a!b!", "abcdefghi!", "!abcdefghi", "abcdefg!i", "abcdefgh!", " ! ", "a abcdefghij !"};
        int[] places = {0, 1, 8, 0, 7, 8, 1, 10};
        for (int i = 0; i < texts.length; i++) {
            t.due("add " + texts[i], t.add(texts[i]), -9);
            t.due("fault of " + texts[i], t.x.fault(), places[i]);
        }
        t.due("what is behind the n bytes does not count", t.feed("ab!"), 20);
        t.due("add(2)", t.x.add(2), 0);
    }

    /** Two letters a WORD, another one for each number. */
    private static String wordsFrom(int from, int to) {
        StringBuilder text = new StringBuilder();
        for (int i = from; i < to; i++) {
            text.append((char) ('a' + i / 26)).append((char) ('a' + i % 26)).append(' ');
        }
        return text.toString();
    }

    /** An object that knows so many WORDS, by three DOCUMENTS. */
    private static Tester knowing(int words) {
        return Tester.with("3 255 WORDS at most", wordsFrom(0, 90), wordsFrom(90, 180), wordsFrom(180, words));
    }

    /** "WORDS that are known are numbered from 0 on as they stand first, 255 at most in all"; FAULT 2, at its first letter. */
    private static void knownWords() {
        Tester t = knowing(254);
        t.row("two more than 254: the second is the 256th", "-8 4 254", () -> t.add("xxx yyy"), t.x::fault,
            () -> t.x.told(2));
        t.row("three more: the first that is too many", "-8 5", () -> t.add(" xxx yyy zzz"), t.x::fault);
        t.row("the 255th, twice", "3 -1 255", () -> t.add("xxx xxx"), t.x::fault, () -> t.x.told(2));
        t.each("words", "missing 2 3 missing", w -> t.x.word(w, 6), -1, 253, 254, 255);
        t.row("the 256th", "-8 0 255", () -> t.add("yyy"), t.x::fault, () -> t.x.told(2));
        t.row("behind known ones", "-8 7", () -> t.add("aa xxx yyy aa"), t.x::fault);
        t.row("at the very end", "-8 3", () -> t.add("aa y"), t.x::fault);
        t.row("known ones alone", "4 -1", () -> t.add("xxx aa iz"), t.x::fault);
        t.row("numbers", "0 254 -1", () -> t.find("aa"), () -> t.find("xxx"), () -> t.find("yyy"));
        Tester u = knowing(253);
        u.row("two more than 253", "3 -1 255", () -> u.add("xxx yyy"), u.x::fault, () -> u.x.told(2));
        Tester v = knowing(253);
        v.row("three more than 253", "-8 8 253", () -> v.add("xxx yyy zzz"), v.x::fault, () -> v.x.told(2));
    }

    /** "one of no more than 8 letters that would be the 256th known one", and which FAULT is the first. */
    private static void knownWordAndOtherFaults() {
        Tester t = knowing(255);
        t.row("8 letters", "-8 3", () -> t.add("aa abcdefgh"), t.x::fault);
        t.row("9 letters: at the ninth", "-9 11", () -> t.add("aa abcdefghi"), t.x::fault);
        t.row("9 letters, then one too many", "-9 8", () -> t.add("abcdefghi q"), t.x::fault);
        t.row("one too many, then 9 letters", "-8 0", () -> t.add("q abcdefghi"), t.x::fault);
        t.row("another sign right behind it", "-8 0", () -> t.add("q!"), t.x::fault);
        t.row("another sign behind its 8 letters", "-8 0", () -> t.add("abcdefgh!"), t.x::fault);
        t.row("another sign ahead of it", "-9 0", () -> t.add("!q"), t.x::fault);
        t.row("another sign behind a known one", "-9 2", () -> t.add("aa! q"), t.x::fault);
        t.row("a blank text", "-9 2", () -> t.add("  "), t.x::fault);
    }

    /** "or the FAULT less 10 (all but the TAPE stays)". */
    private static void aFaultChangesNothing() {
        Tester t = Tester.with("3 all but the TAPE stays", "a b", "b");
        t.ask("b");
        t.row("a fault behind new words", "-9 6", () -> t.add("c d b !"), t.x::fault);
        t.row("told", "2 0 2 3 2 2 1 1", () -> t.x.told(0), () -> t.x.told(1), () -> t.x.told(2), () -> t.x.told(3),
            () -> t.x.told(4), () -> t.x.told(9), () -> t.x.told(7), () -> t.x.word(0, 1));
        t.row("the new words are not known", "-1 -1 missing", () -> t.find("c"), () -> t.find("d"),
            () -> t.x.word(2, 0));
        t.row("the tape is empty", "illegal 20", () -> t.x.add(1), () -> t.feed("x"));
        t.row("the next one", "2 2", () -> t.x.add(1), () -> t.x.at(2, 0));
    }

    /** add: "n is not 0 to the TAPE's bytes". */
    private static void bytesOfAdd() {
        Tester t = new Tester("3 n of add");
        t.each("of an empty tape", "illegal -9 illegal illegal illegal", t.x::add, -1, 0, 1, GREATEST, LEAST);
        t.feed("a".repeat(8) + " ".repeat(12));
        t.each("beyond 20", "illegal illegal illegal illegal", t.x::add, 21, -1, GREATEST, LEAST);
        t.row("20, then empty", "0 illegal", () -> t.x.add(20), () -> t.x.add(1));
        t.feed("b");
        t.row("0 of 20, then empty", "-9 illegal", () -> t.x.add(0), () -> t.x.add(1));
        t.feed("c c");
        t.row("1 of 20", "1 1", () -> t.x.add(1), () -> t.x.document(1, 0));
        t.feed(" ".repeat(299) + "d");
        t.row("beyond 300, 299 and 300", "illegal -9 illegal", () -> t.x.add(301), () -> t.x.add(299),
            () -> t.x.add(300));
        t.feed(" ".repeat(299) + "d");
        t.row("300", "2 2", () -> t.x.add(300), () -> t.x.at(2, 0));
    }

    /** ask: "n is not 0 to 120, or more than the TAPE has (it stays)". */
    private static void bytesOfAsk() {
        Tester t = Tester.with("4 n of ask", "a b");
        t.each("of an empty tape", "illegal -9 illegal illegal illegal", t.x::ask, -1, 0, 1, GREATEST, LEAST);
        t.feed("a" + " ".repeat(18) + "b");
        t.each("of 20", "illegal illegal illegal 2 illegal", t.x::ask, -1, 21, 120, 20, 1);
        t.feed("a" + " ".repeat(18) + "b");
        t.due("19 of 20", t.x.ask(19), 1);
        t.feed("a" + " ".repeat(118) + "b");
        t.each("of 120", "illegal 2 illegal", t.x::ask, 121, 120, 1);
        t.feed("a" + " ".repeat(118) + "b");
        t.due("119 of 120", t.x.ask(119), 1);
        t.feed("a" + " ".repeat(119) + "b");
        t.each("of 140", "illegal illegal 1 illegal", t.x::ask, 121, 140, 120, 1);
        t.feed("a" + " ".repeat(298) + "b");
        t.each("of 300", "illegal illegal illegal 1", t.x::ask, 300, 301, LEAST, 120);
        t.due("what is refused is no question", t.x.told(7), 1);
    }

    /** find: "n is not 0 to the TAPE's bytes (it stays)", "empty then". */
    private static void bytesOfFind() {
        Tester t = Tester.with("6 n of find", "a");
        t.each("of an empty tape", "illegal -1 illegal illegal illegal", t.x::find, -1, 0, 1, GREATEST, LEAST);
        t.feed("a");
        t.each("of 20", "illegal illegal illegal illegal 0 illegal", t.x::find, -1, 21, GREATEST, LEAST, 1, 1);
        t.feed("a");
        t.each("20 of 20, then empty", "-1 illegal", t.x::find, 20, 1);
        t.feed("a" + " ".repeat(299));
        t.each("of 300", "illegal -1 illegal", t.x::find, 301, 300, 1);
    }

    /** "if these are just 1 to 8 small letters: the number of that WORD; NONE: it is not known, or no WORD." */
    private static void wordsFound() {
        Tester t = Tester.with("6 1 to 8 small letters", "a abcdefg abcdefgh z");
        t.row("1, 7, 8 letters", "0 1 2 3", () -> t.find("a"), () -> t.find("abcdefg"), () -> t.find("abcdefgh"),
            () -> t.find("z"));
        t.row("no word", "-1 -1 -1 -1 -1 -1", () -> t.find(""), () -> t.find("abcdefghi"), () -> t.find(" a"),
            () -> t.find("a "), () -> t.find("a\0"), () -> t.find(" "));
        t.row("not known", "-1 -1 -1 -1", () -> t.find("b"), () -> t.find("abcdef"), () -> t.find("aa"),
            () -> t.find("bcdefgh"));
        t.row("no small letter", "-1 -1 -1 -1", () -> t.find("A"), () -> t.find("`"), () -> t.find("{"),
            () -> t.find("\u00e1"));
        // a sign just below a counts as no letter at all, not as one worth nothing
        t.row("signs ahead of a known one", "-1 -1", () -> t.find("`a"), () -> t.find("\0a"));
        // .. and one far below it does not make up for the letter ahead of it
        t.row("signs behind a known one", "-1 -1 -1 -1", () -> t.find("aA"), () -> t.find("aZ"), () -> t.find("a`"),
            () -> t.find("abcdefgA"));
        t.row("asking makes none known", "4 -1", () -> t.x.told(2), () -> t.find("b"));
    }

    /** "The place of the FAULT of the latest text (by add(), ask()); NONE without." */
    private static void faultPlaces() {
        Tester t = new Tester("5 fault");
        t.due("no text yet", t.x.fault(), -1);
        t.add("!");
        t.due("at 0", t.x.fault(), 0);
        t.add(" ".repeat(299) + "!");
        t.due("at 299", t.x.fault(), 299);
        t.find("!");
        t.due("find is no text that has one", t.x.fault(), 299);
        t.each("refused", "illegal illegal", t.x::add, 1, -1);
        t.each("refused", "illegal illegal", t.x::ask, 1, 121);
        t.due("refused calls leave it", t.x.fault(), 299);
        t.ask(" ".repeat(120));
        t.due("of ask, at 120", t.x.fault(), 120);
        t.add("a");
        t.due("none by add", t.x.fault(), -1);
        t.ask("");
        t.due("of ask, at 0", t.x.fault(), 0);
        t.ask("a");
        t.due("none by ask", t.x.fault(), -1);
    }

    /** "A DOCUMENT is GONE from now on: how many are"; "there is no such one, it is GONE, PURGED". */
    private static void removed() {
        Tester t = new Tester("7 remove");
        t.each("there are none", "missing missing missing missing missing", t.x::remove, 0, -1, 1, GREATEST, LEAST);
        t.add("a");
        t.add("a");
        t.add("a");
        t.each("of three", "missing missing 1 2 missing missing", t.x::remove, -1, 3, 2, 0, 0, 2);
        t.each("gone", "1 0 1", d -> t.x.document(d, 2), 0, 1, 2);
        t.x.repack(4);
        t.each("purged, and the last one", "missing missing 1 missing", t.x::remove, 0, 2, 1, 1);
        t.x.repack(4);
        t.due("a new one", t.add("a"), 3);
        t.each("of one", "missing 1 missing", t.x::remove, 4, 3, 3);
    }

    /** "A DOCUMENT is GONE from now on", whatever comes then. */
    private static void goneStaysGone() {
        Tester t = Tester.with("7 from now on", "a", "a b", "b");
        t.x.remove(0);
        t.x.remove(2);
        t.due("another one comes", t.add("a b"), 3);
        t.due("another with a fault", t.add("a !"), -9);
        t.ask("a b");
        t.each("gone", "1 0 1 0", d -> t.x.document(d, 2), 0, 1, 2, 3);
        t.each("why", "1 0 1 0", t.x::why, 0, 1, 2, 3);
        t.row("told", "4 2 2", () -> t.x.told(0), () -> t.x.told(1), t.x::answers);
        t.each("once alone", "missing missing", t.x::remove, 0, 2);
        t.due("purged", t.x.repack(4), 2);
        t.due("another one comes", t.add("a"), 4);
        t.each("purged, too", "missing 0 missing 0 0", d -> t.x.document(d, 2), 0, 1, 2, 3, 4);
    }

    /** All 64 at once: "GONE ones count until they are PURGED". */
    private static void removedAll() {
        Tester t = new Tester("7 all of them");
        for (int i = 0; i < 64; i++) {
            t.add("a b");
        }
        for (int i = 0; i < 64; i++) {
            t.due("remove", t.x.remove(i), i + 1);
        }
        t.ask("a");
        t.row("there, but no answers", "64 64 128 64 1 0", () -> t.x.told(0), () -> t.x.told(1), () -> t.x.told(3),
            () -> t.x.word(0, 0), () -> t.x.word(0, 4), t.x::answers);
        t.due("purged", t.x.repack(4), 64);
        t.row("empty", "0 0 2 0 0 0 64 0", () -> t.x.told(0), () -> t.x.told(1), () -> t.x.told(2),
            () -> t.x.told(3), () -> t.x.told(4), () -> t.x.told(5), () -> t.x.told(9), () -> t.x.word(0, 4));
        t.each("no such one", "missing missing", t.x::remove, 0, 63);
    }

    /** "SIZE (2 to 8; 4 at first)", "IllegalArgumentException: another SIZE." */
    private static void sizes() {
        Tester t = Tester.with("8 SIZE", "a");
        t.due("at first", t.x.told(6), 4);
        for (int size = 2; size <= 8; size++) {
            t.due("repack", t.x.repack(size), 0);
            t.due("told", t.x.told(6), size);
        }
        t.each("others", "illegal illegal illegal illegal illegal illegal", t.x::repack, 1, 9, 0, -1, GREATEST, LEAST);
        t.due("told", t.x.told(6), 8);
        t.due("the least", t.x.repack(2), 0);
        t.each("others", "illegal illegal", t.x::repack, 1, 9);
        t.due("told", t.x.told(6), 2);
    }

    /** What is refused PURGES nothing. */
    private static void refusedRepack() {
        Tester t = Tester.with("8 refused", "a", "a");
        t.x.remove(0);
        t.each("refused", "illegal illegal", t.x::repack, 1, 9);
        t.row("it is still gone", "2 1 2 4", () -> t.x.told(0), () -> t.x.told(1), () -> t.x.told(3),
            () -> t.x.told(6));
        t.due("the same size", t.x.repack(4), 1);
        t.row("purged", "1 0 1 4", () -> t.x.told(0), () -> t.x.told(1), () -> t.x.told(3), () -> t.x.told(6));
        t.due("none are gone", t.x.repack(4), 0);
    }

    /** "PURGED (they and their POSTINGS are no more, numbers stay; WORDS stay known)": the first, the last, all. */
    private static void purged() {
        Tester t = Tester.with("8 purged", "a b", "b c", "a c d");
        t.x.remove(0);
        t.due("the first", t.x.repack(2), 1);
        t.row("lists", "2 1 1 2", () -> t.x.posting(0, 0, 0), () -> t.x.posting(1, 0, 0), () -> t.x.posting(2, 0, 0),
            () -> t.x.posting(2, 1, 0));
        t.row("no more postings", "missing missing", () -> t.x.posting(0, 1, 0), () -> t.x.posting(1, 1, 0));
        t.x.remove(2);
        t.due("the last", t.x.repack(2), 1);
        t.each("postings", "0 1 1 0", w -> t.x.word(w, 0), 0, 1, 2, 3);
        t.x.remove(1);
        t.due("all", t.x.repack(2), 1);
        t.each("postings", "0 0 0 0 missing", w -> t.x.word(w, 0), 0, 1, 2, 3, 4);
        t.row("words stay known, numbers stay", "4 3 3 3", () -> t.x.told(2), () -> t.x.told(9), () -> t.find("d"),
            () -> t.add("d"));
        t.row("its list begins anew", "3 missing 1", () -> t.x.posting(3, 0, 0), () -> t.x.posting(3, 1, 0),
            () -> t.x.word(3, 0));
    }
}
