/**
 * The edges that "Terms" names for the QUESTION, its FAULTS, SCORED WORDS, MATCHES, NEAR and ANSWERS, and those of
 * promises 19 to 26, 30, 35, 39, 40 and 42: each sentence just inside its edge, at it, and just beyond it.
 */
final class EdgeQuestionsTest {
    private static final int LEAST = Integer.MIN_VALUE;
    private static final int GREATEST = Integer.MAX_VALUE;

    public static void main(String[] args) {
        noneAtFirst();
        digits();
        letters();
        everySign();
        parts();
        seventhPart();
        phraseWords();
        signsAheadOfWords();
        nearnessOnce();
        noPart();
        firstFromTheLeft();
        aFaultChangesNothing();
        aFaultLeavesNothingOpen();
        aNewQuestionChangesAll();
        aShorterQuestion();
        boosts();
        mostPoints();
        scoredWords();
        knownWhenTold();
        whyInOrder();
        mustNotKnown();
        noneOfNot();
        phrasePlaces();
        nearByEachDigit();
        nearInOrder();
        mostNear();
        scored();
        documentsOfTheOthers();
        window();
        answer();
        mostAnswers();
        place();
        inside();
        full();
        points();
        phrase();
        without();
        withoutBeyondTen();
        nearByThoseLeft();
        Tester.end("edges of questions");
    }

    private static String times(int count, String word) {
        return (word + " ").repeat(count);
    }

    /** The FAULT of each text, by a QUESTION of its own: "kind at place", or "fine". */
    private static void faults(String sentence, String... textsAndFaults) {
        for (int i = 0; i < textsAndFaults.length; i += 2) {
            Tester t = Tester.with(sentence, "a b c d e f g abcdefgh");
            String text = textsAndFaults[i];
            String[] due = textsAndFaults[i + 1].split(" at ");
            boolean fine = due[0].equals("fine");
            t.due("ask " + text, Math.min(t.ask(text), 0), fine ? 0 : Integer.parseInt(due[0]) - 10);
            t.due("fault of " + text, t.x.fault(), fine ? -1 : Integer.parseInt(due[1]));
            t.due("told by " + text, Math.min(t.x.told(8), 1), fine ? 1 : 0);
        }
    }

    /** "The QUESTION (none at first)". */
    private static void noneAtFirst() {
        Tester t = Tester.with("4 none at first", "a a");
        t.row("told", "0 0", () -> t.x.told(7), () -> t.x.told(8));
        t.row("asked", "-1 2 0 0 -1 0 0 -1 0 0 -1 -1 -1", () -> t.x.scored(0, 0), () -> t.x.why(0),
            () -> t.x.score(0), () -> t.x.near(0), () -> t.x.window(0, 0), () -> t.x.window(0, 1), t.x::answers,
            () -> t.x.place(0), () -> t.x.inside(0, 0), t.x::full, () -> t.x.points(0, 0), () -> t.x.phrase(0, 0),
            () -> t.x.without(1, 0));
        t.row("none such", "missing missing missing", () -> t.x.answer(0, 0), () -> t.x.opened(1, 0, 0),
            () -> t.x.depth(0, 0));
    }

    /** "DIGIT: 1 to 9; no blanks within but those." */
    private static void digits() {
        Tester t = Tester.with("4 DIGIT: 1 to 9", "a b");
        for (int digit = 1; digit <= 9; digit++) {
            t.due("ask", t.ask("a^" + digit + " +b^" + digit + " ~" + digit), 2);
            t.row("by " + digit, digit + " " + digit + " " + 50 * digit, () -> t.x.scored(0, 1),
                () -> t.x.scored(1, 1), () -> t.x.near(0));
        }
        faults("4 DIGIT: 1 to 9", "a^0", "1 at 2", "a^/", "1 at 2", "a^:", "1 at 2", "a^", "1 at 2", "a^a", "1 at 2",
            "a^ 1", "1 at 2", "a ^1", "1 at 2", "a^10", "1 at 3", "a^1^", "1 at 3", "a^1^1", "1 at 3", "+a^0",
            "1 at 3", "+a^9^9", "1 at 4", "+a^:", "1 at 3", "~0", "1 at 1", "~/", "1 at 1", "~:", "1 at 1", "~",
            "1 at 1", "~a", "1 at 1", "~ 1", "1 at 1", "~10", "1 at 2", "~1^1", "1 at 2", "a^9b", "fine", "~9b",
            "fine");
    }

    /** "WORD: as above", 1 to 8 letters; "a ninth letter: at it", in each kind of PART. */
    private static void letters() {
        faults("4 a ninth letter", "a", "fine", "abcdefg", "fine", "abcdefgh", "fine", "abcdefghi", "1 at 8",
            "abcdefghij", "1 at 8", " abcdefghi", "1 at 9", "a abcdefghi", "1 at 10", "abcdefgh^1", "fine",
            "abcdefghi^1", "1 at 8", "+abcdefgh", "fine", "+abcdefghi", "1 at 9", "-abcdefgh", "fine", "-abcdefghi",
            "1 at 9", "\"abcdefgh a\"", "fine", "\"abcdefghi a\"", "1 at 9", "\"a abcdefgh\"", "fine",
            "\"a abcdefghi\"", "1 at 11", "~1abcdefghi", "1 at 10", "abcdefgh^1abcdefghi", "1 at 18",
            "a".repeat(120), "1 at 8");
    }

    /** "1 what can't stand there (at it ..)": each of the 256 signs behind a blank, a WORD, and within a PHRASE. */
    private static void everySign() {
        for (int sign = 0; sign < 256; sign++) {
            char s = (char) sign;
            boolean letter = s >= 'a' && s <= 'z';
            boolean begins = letter || s == ' ' || s == '+' || s == '-';
            faults("4 sign " + sign + " behind a blank", "a " + s + "b",
                begins ? "fine" : s == '"' ? "1 at 4" : s == '~' ? "1 at 3" : "1 at 2");
            faults("4 sign " + sign + " behind a WORD", "a" + s + "b",
                begins ? "fine" : s == '"' ? "1 at 3" : s == '~' || s == '^' ? "1 at 2" : "1 at 1");
            faults("4 sign " + sign + " behind +WORD", "+a" + s + " c",
                letter || s == ' ' ? "fine" : "+-\"~^".indexOf(s) < 0 ? "1 at 2" : s == '"' ? "1 at 5" : "1 at 3");
            faults("4 sign " + sign + " behind -WORD", "-a" + s + "1",
                s == '~' ? "fine" : begins || s == '"' ? "1 at 3" : "1 at 2");
            faults("4 sign " + sign + " behind a sign", "+" + s + "b", letter ? "fine" : "1 at 1");
            faults("4 sign " + sign + " within a PHRASE", "\"a b" + s + "c\"",
                letter || s == ' ' ? "fine" : s == '"' ? "1 at 7" : "1 at 4");
            faults("4 sign " + sign + " first in a PHRASE", "\"" + s + "b c\"",
                letter || s == ' ' ? "fine" : "1 at 1");
            boolean seventh = "+-\"~".indexOf(s) >= 0;
            faults("4 sign " + sign + " behind six PARTS", "a b c d e f " + s,
                letter || seventh ? "2 at 12" : s == ' ' ? "fine" : "1 at 12");
            faults("4 sign " + sign + " behind the sixth WORD", "a b c d e f" + s,
                letter || s == ' ' ? "fine" : seventh ? "2 at 11" : s == '^' ? "1 at 12" : "1 at 11");
        }
    }

    /** "{ PART }, 6 PARTS at most, blanks ahead of each, and at the end." */
    private static void parts() {
        Tester t = Tester.with("4 6 PARTS at most", "a b c d e f g");
        String[] texts = {"a", "a b c d e", "a b c d e f", "a a a a a a", "  a  b  c  d  e  f  ", "-a-b-c-d-e-f",
            "+a+b+c+d+e+f", "\"a b\"\"c d\"\"e f\"\"a b\"\"c d\"\"e f\"", "a^1b^2c^3d^4e^5f^6", "a+b-c\"d e\"~1f", "~1",
            "zz zz zz zz zz zz"};
        int[] parts = {1, 5, 6, 6, 6, 6, 6, 6, 6, 6, 1, 6};
        int[] scored = {1, 5, 6, 1, 6, 0, 6, 6, 6, 5, 0, 0};
        for (int i = 0; i < texts.length; i++) {
            t.due("ask " + texts[i], t.ask(texts[i]), scored[i]);
            t.due("parts of " + texts[i], t.x.told(8), parts[i]);
            t.due("scored of " + texts[i], t.x.told(7), scored[i]);
        }
    }

    /** "2 what would begin a seventh PART (at its first byte; not a second "~")". */
    private static void seventhPart() {
        faults("4 a seventh PART", "a b c d e f", "fine", "a b c d e f ", "fine", "a b c d e f^9", "fine",
            "a b c d e f^9  ", "fine", "a b c d e f g", "2 at 12", "a b c d e f +", "2 at 12", "a b c d e f -",
            "2 at 12", "a b c d e f \"", "2 at 12", "a b c d e f ~", "2 at 12", "a b c d e f ~0", "2 at 12",
            "a b c d e f abcdefghi", "2 at 12", "a b c d e f^9g", "2 at 13", "a b c d e f+g", "2 at 11",
            "a b c d e f-g", "2 at 11", "a b c d e f\"g", "2 at 11", "a b c d e f~1", "2 at 11", "a b c d e f^9~1",
            "2 at 13", "a b c d e \"f g\"a", "2 at 15", "a b c d e ~1f", "2 at 12", "a b c d e -f g", "2 at 13");
        faults("4 not a second ~", "~1 a b c d e ~", "1 at 13", "~1 a b c d e~", "1 at 12", "a b c d e ~1~", "1 at 12",
            "~1 a b c d e f", "2 at 13", "~1 a b c d e", "fine");
        faults("4 what begins none", "a b c d e f !", "1 at 12", "a b c d e f 1", "1 at 12", "a b c d e f ^", "1 at 12",
            "a b c d e f^", "1 at 12", "a b c d e f^0", "1 at 12", "a b c d e f!", "1 at 11", "a b c d e f A",
            "1 at 12", "a b c d e abcdefghi g", "1 at 18");
    }

    /** "a PHRASE, 2 to 4 WORDS, blanks between, ahead, behind"; "a fifth WORD of a PHRASE (at it)". */
    private static void phraseWords() {
        faults("4 2 to 4 WORDS", "\"\"", "1 at 1", "\" \"", "1 at 2", "\"a\"", "1 at 2", "\"a \"", "1 at 3", "\"ab\"",
            "1 at 3", "\"a b\"", "fine", "\"a b c\"", "fine", "\"a b c d\"", "fine", "\"a b c d e\"", "2 at 9",
            "\"a b c d e", "2 at 9", "\"a b c d e f\"", "2 at 9", "\"a b c d abcdefghi\"", "2 at 9", "\"a a a a a\"",
            "2 at 9", "\"zz zz zz zz zz\"", "2 at 13", "\"a b c d  e\"", "2 at 10");
        faults("4 blanks", "\" a b\"", "fine", "\"a b \"", "fine", "\"  a   b  c  d  \"", "fine", "\"a  b\"", "fine");
        faults("4 the end: at the length", "\"", "1 at 1", "\" ", "1 at 2", "\"a", "1 at 2", "\"a b", "1 at 4",
            "\"a b ", "1 at 5", "\"a b c d", "1 at 8", "\"a b c d ", "1 at 9", "\"a b\" \"", "1 at 7");
        faults("4 in a PHRASE", "\"a b c d !\"", "1 at 9", "\"a b c d!\"", "1 at 8", "\"a b c d +e\"", "1 at 9",
            "\"a ~1\"", "1 at 3", "\"a -b\"", "1 at 3", "\"a b^2\"", "1 at 4", "\"a b\"^2", "1 at 5", "\"a b\"c",
            "fine", "a\"b c\"", "fine", "+\"a b\"", "1 at 1", "-\"a b\"", "1 at 1", "\"a \"b c\"", "1 at 3");
        Tester t = Tester.with("4 how many WORDS", "a b c d");
        t.row("2, 3, 4", "2 3 4", () -> t.ask("\"a b\""), () -> t.ask("\"a b c\""), () -> t.ask("\"a b c d\""));
    }

    /** "+" WORD, "-" WORD: without "^" behind "-", nothing between. */
    private static void signsAheadOfWords() {
        faults("4 signs", "+", "1 at 1", "-", "1 at 1", "+ a", "1 at 1", "- a", "1 at 1", "++a", "1 at 1", "--a",
            "1 at 1", "+-a", "1 at 1", "-+a", "1 at 1", "+~1", "1 at 1", "+1", "1 at 1", "-a^", "1 at 2", "-a^1",
            "1 at 2", "-a^0", "1 at 2", "+a^1", "fine", "^", "1 at 0", "^1", "1 at 0", "a+", "1 at 2", "a-",
            "1 at 2", "a+b", "fine", "a-b", "fine", "-a-b", "fine", "-a+b", "fine");
    }

    /** "~" DIGIT (once; NEARNESS): "a second "~" .. at it". */
    private static void nearnessOnce() {
        faults("4 once", "~1", "fine", "~1~1", "1 at 2", "~1 ~1", "1 at 3", "~1 a ~", "1 at 5", "a ~9 b", "fine",
            "~1 a ~0", "1 at 5", "a~1b~2", "1 at 4");
        Tester t = Tester.with("4 once", "a b");
        t.ask("~2 a b");
        t.due("ahead of all", t.x.near(0), 100);
        t.ask("a ~3 b");
        t.due("between", t.x.near(0), 150);
        t.ask("a b ~4");
        t.due("behind all", t.x.near(0), 200);
    }

    /** "no PART at all: 1, at the length": 0 to 120 bytes. */
    private static void noPart() {
        faults("4 no PART at all", "", "1 at 0", " ", "1 at 1", " ".repeat(119), "1 at 119", " ".repeat(120),
            "1 at 120", " ".repeat(119) + "a", "fine", "a" + " ".repeat(119), "fine", " ".repeat(119) + "!",
            "1 at 119", " ".repeat(119) + "+", "1 at 120");
    }

    /** "FAULTS, likewise": the first from the left. */
    private static void firstFromTheLeft() {
        faults("4 the first from the left", "!!", "1 at 0", "a ! \"a\"", "1 at 2", "a^0 !", "1 at 2", "a b c d e f g !",
            "2 at 12", "a b c d e ! f g", "1 at 10", "\"a b c d e !\"", "2 at 9", "\"a b ! c d e\"", "1 at 5",
            "\"a b c d e\" a b c d e f", "2 at 9", "abcdefghi!", "1 at 8", "abcdefgh!i", "1 at 8");
        Tester t = Tester.with("4 behind the n bytes", "a b");
        t.feed("a b!");
        t.due("what is behind them does not count", t.x.ask(3), 2);
    }

    /** "or the FAULT less 10 (all but the TAPE stays)": nothing of a QUESTION with a FAULT is taken. */
    private static void aFaultChangesNothing() {
        Tester t = Tester.with("4 all but the TAPE stays", "a x b c", "a b c d", "e f g b", "f e", "a b c");
        t.ask("+a^2 \"b c\" -d ~3");
        String[] faulty = {"d e^7 +f \"e f\" -a -b ~9", "d e f g a b c", "\"e f\" \"d d\" -c ~9 \"a", ""};
        int[] kinds = {-8, -8, -9, -9};
        for (int i = 0; i <= faulty.length; i++) {
            t.row("told", "3 4", () -> t.x.told(7), () -> t.x.told(8));
            t.each("scored", "0 2 3 -1", k -> t.x.scored(k, 0), 0, 1, 2, 3);
            t.each("boosts", "2 1 1 -1", k -> t.x.scored(k, 1), 0, 1, 2, 3);
            t.each("must", "1 1 1 -1", k -> t.x.scored(k, 2), 0, 1, 2, 3);
            t.each("why", "0 4 3 2 0", t.x::why, 0, 1, 2, 3, 4);
            // 50 times 2 and 3, 3 and 3
            t.each("near", "250 300 0 0 300", t.x::near, 0, 1, 2, 3, 4);
            t.each("phrases", "1 -1", j -> t.x.phrase(0, j), 0, 1);
            if (i < faulty.length) {
                t.due("a fault", t.ask(faulty[i]), kinds[i]);
            }
        }
    }

    /** A QUESTION is read anew, wherever the text before it had its FAULT. */
    private static void aFaultLeavesNothingOpen() {
        Tester t = Tester.with("4 read anew", "a b", "b a");
        String[] faulty = {"", "a!", "+", "+a!", "-", "-b!", "-b^", "a^", "+a^", "~", "\"", "\"a", "\"a ", "\"a b",
            "\"a b c d e", "abcdefghi", "a b a b a b a"};
        for (String text : faulty) {
            t.due("a fault", Math.max(t.ask(text), -8), -8);
            t.due("ask behind " + text, t.ask("a b"), 2);
            t.row("it is as told", "2 0 0 0 -1", () -> t.x.told(8), () -> t.x.scored(0, 2), () -> t.x.why(1),
                () -> t.x.near(0), () -> t.x.phrase(0, 0));
            t.row("boosts", "1 1", () -> t.x.scored(0, 1), () -> t.x.scored(1, 1));
        }
    }

    /** "are the QUESTION": nothing of the one before stays. */
    private static void aNewQuestionChangesAll() {
        Tester t = Tester.with("4 another QUESTION", "a b", "b a c");
        t.due("ask", t.ask("+a^9 \"a b\" -c +zz ~2"), 2);
        t.row("must not known, not, a phrase", "3 3 1 100", () -> t.x.why(0), () -> t.x.why(1),
            () -> t.x.phrase(0, 0), () -> t.x.near(0));
        t.due("ask", t.ask("b a"), 2);
        t.row("scored", "1 1 0 0 1 0 -1", () -> t.x.scored(0, 0), () -> t.x.scored(0, 1), () -> t.x.scored(0, 2),
            () -> t.x.scored(1, 0), () -> t.x.scored(1, 1), () -> t.x.scored(1, 2), () -> t.x.scored(2, 0));
        t.row("none of these", "0 0 -1 0 2", () -> t.x.why(0), () -> t.x.why(1), () -> t.x.phrase(0, 0),
            () -> t.x.near(0), () -> t.x.told(8));
    }

    /** .. nor of one with more SCORED WORDS, more of NOT, more PHRASES. */
    private static void aShorterQuestion() {
        Tester t = Tester.with("4 a shorter QUESTION", "a b c d", "a d", "d e f");
        t.due("ask", t.ask("+a^2 +b^3 +c^4 -e -f"), 3);
        t.each("why", "0 3 2", t.x::why, 0, 1, 2);
        t.due("ask", t.ask("d"), 1);
        // GAIN of d: 1 by 3, 2, 2; nothing of a, b, c
        t.each("why", "0 0 0", t.x::why, 0, 1, 2);
        t.each("score", "333 500 500", t.x::score, 0, 1, 2);
        t.each("window", "1 1 1", d -> t.x.window(d, 1), 0, 1, 2);
        t.due("full", t.x.full(), 3);
        t.due("ask", t.ask("d -e"), 1);
        t.each("why", "0 0 4", t.x::why, 0, 1, 2);
        t.due("ask", t.ask("\"a b\" \"b c\" \"c d\""), 4);
        t.due("ask", t.ask("\"a d\""), 2);
        t.each("why", "5 0 3", t.x::why, 0, 1, 2);
        t.each("phrases", "1 -1 -1", j -> t.x.phrase(1, j), 0, 1, 2);
    }

    /** "its BOOST is what its "^" tell together (1 for one without, also for each time in a PHRASE)": 1 to 54. */
    private static void boosts() {
        Tester t = Tester.with("19 BOOST", "a b");
        String[] texts = {"a", "a^1", "a^9", "a a", "a^9 a", "+a a^2", "a^9 a^9 a^9 a^9 a^9 a^8",
            "a^9 a^9 a^9 a^9 a^9 +a^9", "\"a a\"", "\"a b a\"", "\"a a a a\" \"a a a a\" \"a a a a\" \"a a a a\" "
            + "\"a a a a\" \"a a a a\"", "\"a b\" a^9", "a -a", "a^9 zz^9", "zz^9 a"};
        int[] boosts = {1, 1, 9, 2, 10, 3, 53, 54, 2, 2, 24, 10, 1, 9, 1};
        for (int i = 0; i < texts.length; i++) {
            t.ask(texts[i]);
            t.due("boost of " + texts[i], t.x.scored(0, 1), boosts[i]);
            // RARE 1, GAIN 500
            t.due("points by " + texts[i], t.x.points(0, 0), boosts[i] * 500);
        }
    }

    /** BOOST 54, RARE 7, GAIN 797: the most there can be of each. */
    private static void mostPoints() {
        Tester t = new Tester("21 most POINTS");
        t.add(times(150, "z"));
        for (int i = 1; i < 64; i++) {
            t.add("y");
        }
        t.ask("z^9 z^9 z^9 z^9 z^9 z^9");
        int most = 54 * 7 * 797;
        t.row("all of it", most + " " + most + " " + most + " " + most + " " + most + " " + most,
            () -> t.x.points(0, 0), () -> t.x.score(0), () -> t.x.answer(0, 1), () -> t.x.early(1, 1),
            () -> t.x.scored(0, 3), () -> t.x.inside(0, 0));
    }

    /** SCORED: "in order as they stand first, each once"; 24 at most: six PHRASES of 4 WORDS. */
    private static void scoredWords() {
        Tester t = Tester.with("19 SCORED", "a b c d e f g h i j k l m n o p q r s t u v w x y");
        t.due("23", t.ask("\"a b c d\"\"e f g h\"\"i j k l\"\"m n o p\"\"q r s t\"\"u v w\""), 23);
        t.each("23", "22 -1", i -> t.x.scored(i, 0), 22, 23);
        t.due("24", t.ask("\"y b c d\"\"e f g h\"\"i j k l\"\"m n o p\"\"q r s t\"\"u v w x\""), 24);
        t.each("24", "-1 24 1 22 23 -1 -1 -1", i -> t.x.scored(i, 0), -1, 0, 1, 22, 23, 24, GREATEST, LEAST);
        t.due("as they stand first", t.ask("c \"b a\" a c d -e"), 4);
        t.each("as they stand first", "2 1 0 3 -1", i -> t.x.scored(i, 0), 0, 1, 2, 3, 4);
        t.due("only those without -", t.ask("-a -b"), 0);
        t.due("one of both", t.ask("-a a"), 1);
    }

    /** "WORDS that are known (when the QUESTION is told)". */
    private static void knownWhenTold() {
        Tester t = Tester.with("19 known when told", "a");
        t.due("b is not known", t.ask("a b -c"), 1);
        t.add("b a c");
        t.row("one still", "1 -1 0", () -> t.x.told(7), () -> t.x.scored(1, 0), () -> t.x.why(1));
        t.due("b and c are known", t.ask("a b -c"), 2);
        t.row("told again", "2 1 4", () -> t.x.told(7), () -> t.x.scored(1, 0), () -> t.x.why(1));
        t.x.remove(1);
        t.x.repack(4);
        t.row("known without postings, too", "2 2 1 0", () -> t.ask("a b"), () -> t.x.told(7),
            () -> t.x.scored(1, 0), () -> t.x.scored(1, 3));
    }

    /** "the first of: 1 it is GONE, 2 .. no SCORED WORD, 3 one of MUST is missing, 4 .. NOT, 5 a PHRASE is missing". */
    private static void whyInOrder() {
        Tester t = Tester.with("20 why", "d", "b d", "a c b d", "a c b", "a b c", "a b c d");
        t.ask("+a -d \"b c\"");
        t.each("why", "2 3 4 5 0 4", t.x::why, 0, 1, 2, 3, 4, 5);
        t.each("none such", "missing missing missing missing", t.x::why, -1, 6, GREATEST, LEAST);
        for (int d = 0; d < 6; d++) {
            t.x.remove(d);
        }
        t.each("gone", "1 1 1 1 1 1", t.x::why, 0, 1, 2, 3, 4, 5);
        t.x.repack(4);
        t.each("purged", "missing missing", t.x::why, 0, 5);
    }

    /** "(none is, if one of MUST is not known)": of "+", of a PHRASE, each place in it. */
    private static void mustNotKnown() {
        Tester t = Tester.with("20 MUST not known", "a b");
        String[] texts = {"a +b", "a +zz", "+zz a", "a \"zz b\"", "\"a b zz\"", "\"a b\" +zz", "a zz", "a -zz"};
        int[] why = {0, 3, 3, 3, 3, 3, 0, 0};
        for (int i = 0; i < texts.length; i++) {
            t.ask(texts[i]);
            t.due("why by " + texts[i], t.x.why(0), why[i]);
            t.due("answers by " + texts[i], t.x.answers(), why[i] == 0 ? 1 : 0);
        }
        t.ask("+zz");
        t.due("no scored word", t.x.why(0), 2);
    }

    /** "none of NOT": the first of them, in between, up to the sixth; "known ones with "-"". */
    private static void noneOfNot() {
        Tester t = Tester.with("20 NOT", "a", "a b", "a c", "a d", "a e", "a f", "b c d e f", "f");
        t.ask("a -b -c -d -e -f");
        t.each("five", "0 4 4 4 4 4 2 2", t.x::why, 0, 1, 2, 3, 4, 5, 6, 7);
        t.ask("a -zz -c -yy -f");
        t.each("the second and the fourth", "0 0 4 0 0 4 2 2", t.x::why, 0, 1, 2, 3, 4, 5, 6, 7);
        t.ask("-a -b -c -d -e -f");
        t.each("six, and no scored word", "2 2 2 2 2 2 2 2", t.x::why, 0, 1, 2, 3, 4, 5, 6, 7);
        t.ask("-e -d a -d");
        t.each("one twice", "0 0 0 4 4 0 2 2", t.x::why, 0, 1, 2, 3, 4, 5, 6, 7);
    }

    /** "its WORDS at POSITIONS one behind the other": at the first one, in between, up to the last. */
    private static void phrasePlaces() {
        Tester t = Tester.with("20 PHRASE", "a b x x", "x a b x", "x x a b", "a b", "a x b", "b a", "a", "b", "x a",
            "a b a b");
        t.ask("\"a b\"");
        t.each("how often", "1 1 1 1 0 0 0 0 0 2", d -> t.x.phrase(d, 0), 0, 1, 2, 3, 4, 5, 6, 7, 8, 9);
        t.each("why", "0 0 0 0 5 5 3 3 3 0", t.x::why, 0, 1, 2, 3, 4, 5, 6, 7, 8, 9);
        t.ask("\"a b a b\"");
        t.each("of four", "0 0 1", d -> t.x.phrase(d, 0), 3, 4, 9);
        t.ask("\"b a b\"");
        t.each("of three, at the end", "0 0 1", d -> t.x.phrase(d, 0), 3, 5, 9);
        t.ask("\"x x\"");
        t.each("the same word twice", "1 0 1", d -> t.x.phrase(d, 0), 0, 1, 2);
        Tester u = Tester.with("20 PHRASE of 150", times(150, "a"), times(149, "b") + "a");
        u.ask("\"a a\" \"a a a a\" \"b a\"");
        u.each("of one word", "149 147 0", j -> u.x.phrase(0, j), 0, 1, 2);
        u.each("at the very end", "0 0 1", j -> u.x.phrase(1, j), 0, 1, 2);
        // words left from a longer DOCUMENT are no part of a shorter one with another number
        Tester v = Tester.with("20 PHRASE over the end", "a b", "a");
        v.ask("\"a b\"");
        v.each("begins", "1 0", d -> v.x.phrase(d, 0), 0, 1);
    }

    /** "is it w at most: 50 times w and 1 less d": each d from 1 to 10 by each w, either one ahead. */
    private static void nearByEachDigit() {
        Tester t = new Tester("22 w at most");
        for (int d = 1; d <= 10; d++) {
            t.add("a " + times(d - 1, "x") + "b");
        }
        for (int d = 1; d <= 10; d++) {
            t.add("b " + times(d - 1, "x") + "a");
        }
        for (int w = 1; w <= 9; w++) {
            t.ask("a b ~" + w);
            for (int d = 1; d <= 10; d++) {
                t.due("near by " + w + " of " + d, t.x.near(d - 1), d <= w ? 50 * (w + 1 - d) : 0);
                t.due("near by " + w + " of " + d + ", b ahead", t.x.near(d + 9), d <= w ? 50 * (w + 1 - d) : 0);
            }
        }
        t.ask("a b");
        t.each("0 without ~", "0 0", t.x::near, 0, 10);
        t.ask("a ~9");
        t.each("one word", "0 0", t.x::near, 0, 10);
        t.ask("~9 zz");
        t.each("no word", "0 0", t.x::near, 0, 10);
        t.each("none such", "missing missing missing missing", t.x::near, -1, 20, GREATEST, LEAST);
    }

    /** "of each two SCORED WORDS one behind the other in order the least distance". */
    private static void nearInOrder() {
        Tester t = Tester.with("22 one behind the other", "a b c", "a c", "b a x x c x b", "a x x x b a b",
            "a " + times(148, "x") + "b");
        t.ask("a b c ~2");
        // 1 and 1; none; 1 and 2; 1; none
        t.each("a b c", "200 0 150 100 0", t.x::near, 0, 1, 2, 3, 4);
        t.ask("a c b ~2");
        // 2 and 1; 1; none and 2
        t.each("a c b", "150 100 50 0 0", t.x::near, 0, 1, 2, 3, 4);
        t.ask("a zz c ~2");
        t.each("those not known are none", "50 100 0", t.x::near, 0, 1, 2);
        t.ask("a b ~9");
        t.due("149 apart", t.x.near(4), 0);
    }

    /** 20 SCORED WORDS and "~9": 19 times 450 is the most there can be. */
    private static void mostNear() {
        Tester t = Tester.with("22 most NEAR", "a b c d e f g h i j k l m n o p q r s t", "t");
        t.due("ask", t.ask("\"a b c d\"\"e f g h\"\"i j k l\"\"m n o p\"\"q r s t\"~9"), 20);
        // GAIN 1000 by 7, 142: 19 times by RARE 2, and t by 1
        t.row("near, score, early", "8550 14088 14088 2", () -> t.x.near(0), () -> t.x.score(0),
            () -> t.x.early(1, 1), () -> t.x.early(1, 2));
    }

    /** scored: "NONE: there are not so many", "what 0 to 3". */
    private static void scored() {
        Tester t = Tester.with("19 scored", "a b", "a");
        t.ask("+b^2 a");
        t.each("the first", "illegal 1 2 1 2000 illegal illegal illegal", what -> t.x.scored(0, what), -1, 0, 1, 2, 3, 4,
            GREATEST, LEAST);
        t.each("the last", "0 1 0 500", what -> t.x.scored(1, what), 0, 1, 2, 3);
        for (int what = 0; what < 4; what++) {
            int w = what;
            t.each("none such", "-1 -1 -1 -1", i -> t.x.scored(i, w), -1, 2, GREATEST, LEAST);
        }
        t.each("another what comes ahead of none such", "illegal illegal", i -> t.x.scored(i, 4), -1, 2);
    }

    /** score, near, window, points, phrase: of a DOCUMENT that is no MATCH or GONE, too; not PURGED. */
    private static void documentsOfTheOthers() {
        Tester t = Tester.with("21 SCORE", "a b", "a", "c");
        t.ask("+b a \"a b\" ~1");
        // b: BOOST 2, RARE 2, GAIN 500; a: BOOST 2, RARE 1, GAIN 500; near 50
        t.each("score", "missing 3050 1000 0 missing missing missing", t.x::score, -1, 0, 1, 2, 3, GREATEST, LEAST);
        t.x.remove(0);
        t.each("gone", "3050 50 0", what -> what == 0 ? t.x.score(0) : what == 1 ? t.x.near(0) : t.x.window(0, 0), 0, 1,
            2);
        t.each("gone: points, phrase", "2000 1000 1", i -> i < 2 ? t.x.points(0, i) : t.x.phrase(0, 0), 0, 1, 2);
        t.x.repack(4);
        t.row("purged", "missing missing missing missing missing missing", () -> t.x.score(0), () -> t.x.near(0),
            () -> t.x.window(0, 0), () -> t.x.points(0, 0), () -> t.x.phrase(0, 0), () -> t.x.place(0));
        // two documents are left: a RARE 2
        t.each("the others", "2000 0", t.x::score, 1, 2);
    }

    /** "The shortest row of POSITIONS .. of as short ones the first .. NONE, 0: it has none." */
    private static void window() {
        Tester t = Tester.with("23 window", "a " + times(148, "x") + "b", "x", "x b", "a b a", "x a x b a", "a a",
            "a x b x a b");
        t.ask("a b");
        t.each("begins", "0 -1 1 0 3 0 4", d -> t.x.window(d, 0), 0, 1, 2, 3, 4, 5, 6);
        t.each("how many", "150 0 1 2 2 1 2", d -> t.x.window(d, 1), 0, 1, 2, 3, 4, 5, 6);
        t.each("what", "illegal 0 150 illegal illegal illegal", what -> t.x.window(0, what), -1, 0, 1, 2, GREATEST,
            LEAST);
        t.each("what, of one that has none", "illegal -1 0 illegal", what -> t.x.window(1, what), -1, 0, 1, 2);
        t.each("none such", "missing missing missing missing", d -> t.x.window(d, 0), -1, 7, GREATEST, LEAST);
        t.each("none such comes ahead of what", "missing missing", d -> t.x.window(d, 2), -1, 7);
        t.ask("b");
        t.each("one word", "149 -1 1 1 3 -1 2", d -> t.x.window(d, 0), 0, 1, 2, 3, 4, 5, 6);
        t.ask("a b x");
        t.each("three words", "0 0 0 0 1 0 0", d -> t.x.window(d, 0), 0, 1, 2, 3, 4, 5, 6);
        t.each("three words", "150 1 2 2 3 1 3", d -> t.x.window(d, 1), 0, 1, 2, 3, 4, 5, 6);
        t.ask("zz");
        t.each("no words", "-1 0", what -> t.x.window(0, what), 0, 1);
        Tester u = Tester.with("23 window of a longer one", "x", "x x a b", "b x x x x a b a");
        u.ask("a b");
        u.each("begins", "-1 2 5", d -> u.x.window(d, 0), 0, 1, 2);
        u.each("how many", "0 2 2", d -> u.x.window(d, 1), 0, 1, 2);
    }

    /** "the greatest SCORE first, of alike ones the lesser number first". */
    private static void answer() {
        Tester t = Tester.with("25 ANSWERS", "a x", "a a", "x", "a", "a a", "a b");
        t.ask("a -b");
        // 500 666 - 500 666 NOT
        t.due("answers", t.x.answers(), 4);
        t.each("documents", "missing 1 4 0 3 missing missing missing", k -> t.x.answer(k, 0), -1, 0, 1, 2, 3, 4,
            GREATEST, LEAST);
        t.each("scores", "missing 666 666 500 500 missing", k -> t.x.answer(k, 1), -1, 0, 1, 2, 3, 4);
        t.each("what", "illegal 3 500 illegal illegal illegal", what -> t.x.answer(3, what), -1, 0, 1, 2, GREATEST,
            LEAST);
        t.each("no answer comes ahead of what", "missing missing", k -> t.x.answer(k, 2), -1, 4);
        t.each("places", "2 0 -1 3 1 -1", t.x::place, 0, 1, 2, 3, 4, 5);
        t.ask("-b");
        t.row("no scored word", "0 missing", t.x::answers, () -> t.x.answer(0, 0));
    }

    /** 64 ANSWERS are the most there can be. */
    private static void mostAnswers() {
        Tester t = new Tester("25 most ANSWERS");
        for (int i = 0; i < 64; i++) {
            t.add(i % 2 == 0 ? "a x x x" : "a");
        }
        t.ask("a");
        // 32 of 500, then 32 of 333
        t.each("documents", "1 3 63 0 2 62 missing", k -> t.x.answer(k, 0), 0, 1, 31, 32, 33, 63, 64);
        t.each("places", "32 0 63 31", t.x::place, 0, 1, 62, 63);
        t.row("how many", "64 64", t.x::answers, t.x::full);
        t.x.remove(63);
        t.row("63", "63 missing 62", t.x::answers, () -> t.x.answer(63, 0), () -> t.x.answer(62, 0));
    }

    private static void place() {
        Tester t = Tester.with("26 place", "a", "x", "a a");
        t.ask("a");
        t.each("documents", "missing 1 -1 0 missing missing missing", t.x::place, -1, 0, 1, 2, 3, GREATEST, LEAST);
        t.x.remove(2);
        t.each("gone", "0 -1 -1", t.x::place, 0, 1, 2);
        t.x.repack(4);
        t.each("purged", "0 -1 missing", t.x::place, 0, 1, 2);
    }

    private static void inside() {
        Tester t = Tester.with("30 inside", "a a b", "a", "a b", "a a", "a");
        t.x.repack(2);
        t.ask("a -b");
        // blocks 0 1, 2 3, 4 of a; 0 2 of b
        t.each("blocks of a", "missing 500 666 500 missing missing missing", b -> t.x.inside(0, b), -1, 0, 1, 2, 3,
            GREATEST, LEAST);
        t.each("blocks of b", "missing 0 missing", b -> t.x.inside(1, b), -1, 0, 1);
        t.each("words", "missing 500 0 missing missing missing", w -> t.x.inside(w, 0), -1, 0, 1, 2, GREATEST, LEAST);
        t.x.remove(4);
        t.each("gone: none", "0", b -> t.x.inside(0, b), 2);
        t.x.repack(2);
        t.each("purged: no block", "666 missing", b -> t.x.inside(0, b), 1, 2);
        Tester u = Tester.with("30 inside, not beyond", "a a", "a x x x", "a", "a a a", "a x x x");
        u.x.repack(2);
        u.ask("a");
        u.each("each its own", "666 750 333", b -> u.x.inside(0, b), 0, 1, 2);
        u.x.repack(3);
        u.each("each its own", "666 750 missing", b -> u.x.inside(0, b), 0, 1, 2);
        Tester v = Tester.with("30 inside, LISTS of their own length", "x a a", "a b", "a", "a a a a");
        v.x.repack(2);
        v.ask("a");
        // a: 2000 by 3, 1000 by 2, 1000 by 2, 4000 by 6; x stands in 0, a in all, b in 1
        v.row("x, a, b", "666 666 666 missing 500", () -> v.x.inside(0, 0), () -> v.x.inside(1, 0),
            () -> v.x.inside(1, 1), () -> v.x.inside(1, 2), () -> v.x.inside(2, 0));
    }

    /** "(0, if there are none of these)". */
    private static void full() {
        Tester t = Tester.with("35 full", "a b c", "a b", "a c", "b");
        int[] full = {0, 3, 2, 1, 0, 2, 0};
        String[] texts = {"zz", "a", "a b", "a b c", "-a", "a b -c", "~1"};
        for (int i = 0; i < texts.length; i++) {
            t.ask(texts[i]);
            t.due("full by " + texts[i], t.x.full(), full[i]);
        }
        t.ask("a b");
        t.x.remove(0);
        t.due("not those gone", t.x.full(), 1);
        t.x.repack(4);
        t.due("not those purged", t.x.full(), 1);
        t.x.remove(1);
        t.due("none", t.x.full(), 0);
    }

    private static void points() {
        Tester t = Tester.with("39 points", "a b", "a");
        t.ask("b a^2");
        t.each("of the first", "-1 1000 1000 -1 -1 -1", i -> t.x.points(0, i), -1, 0, 1, 2, GREATEST, LEAST);
        t.each("of the second: 0, if it has it not", "-1 0 1000 -1", i -> t.x.points(1, i), -1, 0, 1, 2);
        t.each("none such", "missing missing missing missing", d -> t.x.points(d, 0), -1, 2, GREATEST, LEAST);
        t.each("no document comes ahead of no word", "missing missing", d -> t.x.points(d, 2), -1, 2);
    }

    private static void phrase() {
        Tester t = Tester.with("40 phrase", "a b a", "b");
        t.ask("a +b");
        t.each("there is none", "-1 -1 -1", j -> t.x.phrase(0, j), -1, 0, 1);
        t.ask("\"a b\"\"b a\"\"a a\"\"a b a\"\"zz a\"\"b a\"");
        t.each("six", "-1 1 1 0 1 0 1 -1 -1 -1", j -> t.x.phrase(0, j), -1, 0, 1, 2, 3, 4, 5, 6, GREATEST, LEAST);
        t.each("of one word", "0 0 -1", j -> t.x.phrase(1, j), 0, 5, 6);
        t.each("none such", "missing missing missing missing", d -> t.x.phrase(d, 0), -1, 2, GREATEST, LEAST);
        t.each("no document comes ahead of no phrase", "missing missing", d -> t.x.phrase(d, 6), -1, 2);
        t.ask("a \"a b\" b");
        t.each("the phrases alone are counted", "1 -1", j -> t.x.phrase(0, j), 0, 1);
    }

    /** "How many of the first k ANSWERS (1 to 10) would not be among the first k". */
    private static void without() {
        Tester t = Tester.with("42 without", "a b", "a a", "a", "b x x x", "a x x x");
        t.ask("b a");
        // b RARE 2, a RARE 1: 1500 666 500 666 333: 0 1 3 2 4; without b: 1 0 2 4; without a: 0 3
        t.each("order", "0 1 3 2 4 missing", k -> t.x.answer(k, 0), 0, 1, 2, 3, 4, 5);
        t.each("without b", "illegal 1 0 1 1 1 1 1 illegal", k -> t.x.without(k, 0), 0, 1, 2, 3, 4, 5, 6, 10, 11);
        t.each("without a", "illegal 0 1 1 2 3 3 3 illegal", k -> t.x.without(k, 1), 0, 1, 2, 3, 4, 5, 6, 10, 11);
        t.each("words", "-1 1 1 -1 -1 -1", i -> t.x.without(3, i), -1, 0, 1, 2, GREATEST, LEAST);
        t.each("far off", "illegal illegal illegal", k -> t.x.without(k, 0), -1, GREATEST, LEAST);
        t.each("another k comes ahead of no word", "illegal illegal", k -> t.x.without(k, 2), 0, 11);
        t.ask("+b a");
        // must stays: 0 and 3 without a, 0 alone without b, 3 has no other
        t.each("its part of must stays", "0 1 1", k -> t.x.without(k, 0), 1, 2, 3);
        t.each("its part of must stays", "0 0 0", k -> t.x.without(k, 1), 1, 2, 3);
        t.ask("a");
        t.each("the only one", "1 4 4", k -> t.x.without(k, 0), 1, 4, 5);
    }

    /** The first ten of more. */
    private static void withoutBeyondTen() {
        Tester t = new Tester("42 the first ten of twelve");
        for (int i = 0; i < 12; i++) {
            t.add(i < 10 ? "a x x x x x x x b" : "a a");
        }
        t.ask("a^9 b^9");
        // a RARE 1: 250 and 666; b RARE 1: 250: 4500 ten times, 5994 twice; without b the last two are first, too
        t.each("without b", "0 0 0 0", k -> t.x.without(k, 1), 1, 2, 3, 10);
        // without a the last two have none, the others 2250
        t.each("without a", "1 2 2 2", k -> t.x.without(k, 0), 1, 2, 3, 10);
    }

    /** "NEAR go by those left": the WORDS ahead and behind stand one behind the other then. */
    private static void nearByThoseLeft() {
        Tester t = Tester.with("42 NEAR by those left", "a x x x c b", "a c x x x b", "a", "b", "c");
        t.ask("a b c ~9");
        // three of 333 in 0 and in 1; near 250 and 450, 250 and 300
        t.each("near", "700 550", t.x::near, 0, 1);
        t.row("first", "0 1", () -> t.x.answer(0, 0), () -> t.x.answer(1, 0));
        // without b: a c: 300, 450; without a: b c: 450, 300; without c: a b: 250, 250
        t.each("without b", "1 0", k -> t.x.without(k, 1), 1, 2);
        t.each("without a", "0 0", k -> t.x.without(k, 0), 1, 2);
        t.each("without c", "0 0", k -> t.x.without(k, 2), 1, 2);
        Tester u = Tester.with("42 NEAR without the first", "c b x x x x a", "a b x x c x x");
        u.ask("a b c ~9");
        // 250 and 450, 450 and 350: 1 0; without a 450, 350: 0 1; without c 250, 450; without b a c: 200, 300
        u.each("near", "700 800", u.x::near, 0, 1);
        u.each("without each", "1 0 0 -1", i -> u.x.without(1, i), 0, 1, 2, 3);
    }
}
