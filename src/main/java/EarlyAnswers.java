import java.util.NoSuchElementException;

/**
 * Best answers early: documents, packed lists of their words, questions, and the best few answers
 * found while most blocks of the lists stay unopened. The words in capitals are the document's.
 */
public final class EarlyAnswers {
    public static final int NONE = -1;

    private static final int MOST_BYTES = 300;
    private static final int MOST_ASKED = 120;
    private static final int BYTES_FED = 20;
    private static final int MOST_DOCUMENTS = 64;
    private static final int MOST_POSITIONS = 150;
    private static final int MOST_WORDS = 255;
    private static final int MOST_LETTERS = 8;
    private static final int MOST_PARTS = 6;
    private static final int MOST_IN_PHRASE = 4;
    private static final int MOST_SCORED = MOST_PARTS * MOST_IN_PHRASE;
    private static final int LEAST_SIZE = 2;
    private static final int GREATEST_SIZE = 8;
    private static final int FIRST_SIZE = 4;
    private static final int MOST_BLOCKS = MOST_DOCUMENTS / LEAST_SIZE;
    private static final int MOST_BEST = 10;
    private static final int NEAR_STEP = 50;
    private static final int FAULT_LESS = 10;

    private static final int BLANK = ' ';
    private static final int NOT_THERE = 1;
    private static final int TOO_MANY = 2;

    private final int[] tape;
    private int tapeLength;
    private int faultPlace;
    private int missingRefused;
    private int argumentsRefused;
    private final Words words;
    private final Library library;
    private final Packer packer;
    private final Question question;
    private final DocumentReader documentReader;
    private final QuestionReader questionReader;
    private final Judge judge;
    private final Ranking ranking;
    private final Ranking trial;
    private final Hunt hunt;

    public EarlyAnswers() {
        tape = new int[MOST_BYTES];
        tapeLength = 0;
        faultPlace = NONE;
        missingRefused = 0;
        argumentsRefused = 0;
        words = new Words();
        library = new Library(words);
        packer = new Packer(library);
        question = new Question();
        documentReader = new DocumentReader(words);
        questionReader = new QuestionReader(words);
        judge = new Judge(library, question);
        ranking = new Ranking(library, judge);
        trial = new Ranking(library, judge);
        hunt = new Hunt(library, packer, question, judge);
    }

    public int feed(int a, int b, int c, int d, int e) {
        if (tapeLength + BYTES_FED > MOST_BYTES) {
            return NONE;
        }
        putBytes(a);
        putBytes(b);
        putBytes(c);
        putBytes(d);
        putBytes(e);
        return tapeLength;
    }

    public int add(int n) throws IllegalArgumentException {
        needBetween(n, 0, tapeLength);
        if (library.given >= MOST_DOCUMENTS) {
            refuseArgument();
        }
        tapeLength = 0;
        int fault = documentReader.read(tape, n);
        faultPlace = documentReader.faultPlace;
        if (fault != 0) {
            return fault - FAULT_LESS;
        }
        return library.shelve(documentReader.text, documentReader.length);
    }

    public int ask(int n) throws IllegalArgumentException {
        needBetween(n, 0, Math.min(tapeLength, MOST_ASKED));
        tapeLength = 0;
        int fault = questionReader.read(tape, n);
        faultPlace = questionReader.faultPlace;
        if (fault != 0) {
            return fault - FAULT_LESS;
        }
        question.copyFrom(questionReader.draft);
        return question.scoredCount;
    }

    public int fault() {
        return faultPlace;
    }

    public int find(int n) throws IllegalArgumentException {
        needBetween(n, 0, tapeLength);
        tapeLength = 0;
        return words.numberOf(spellingOf(n));
    }

    public int remove(int document) throws NoSuchElementException {
        needDocument(document);
        if (library.isGone(document)) {
            refuseMissing();
        }
        return library.takeAway(document);
    }

    public int repack(int size) throws IllegalArgumentException {
        needSize(size);
        library.size = size;
        return library.purge();
    }

    public int told(int what) throws IllegalArgumentException {
        needBetween(what, 0, 9);
        switch (what) {
            case 0:
                return library.there;
            case 1:
                return library.gone;
            case 2:
                return words.known;
            case 3:
                return library.allPostings();
            case 4:
                return packer.allBlocks(library.size);
            case 5:
                return packer.allBits(library.size);
            case 6:
                return library.size;
            case 7:
                return question.scoredCount;
            case 8:
                return question.parts;
            default:
                return library.given;
        }
    }

    public int document(int document, int what) throws NoSuchElementException, IllegalArgumentException {
        needDocument(document);
        needBetween(what, 0, 4);
        switch (what) {
            case 0:
                return library.lengths[document];
            case 1:
                return library.unlikeWords(document);
            case 2:
                return library.isGone(document) ? 1 : 0;
            case 3:
                return library.mostOften(document);
            default:
                return library.counts[library.mostOften(document)][document];
        }
    }

    public int at(int document, int position) throws NoSuchElementException {
        needDocument(document);
        if (position < 0 || position >= library.lengths[document]) {
            return NONE;
        }
        return library.texts[document][position];
    }

    public int word(int word, int what) throws NoSuchElementException, IllegalArgumentException {
        needWord(word);
        needBetween(what, 0, 6);
        switch (what) {
            case 0:
                return library.postings[word];
            case 1:
                return library.standsOften(word);
            case 2:
                return library.blocksOf(word, library.size);
            case 3:
                return library.topOf(word);
            case 4:
                return library.rareOf(word);
            case 5:
                return packer.bitsOf(word, library.size);
            default:
                return words.lettersOf(word);
        }
    }

    public int letter(int word, int k) throws NoSuchElementException {
        needWord(word);
        return words.letterOf(word, k);
    }

    public int block(int word, int block, int what) throws NoSuchElementException, IllegalArgumentException {
        needBlock(word, block);
        needBetween(what, 0, 7);
        packer.measure(word, block, library.size);
        switch (what) {
            case 0:
                return packer.first;
            case 1:
                return packer.last;
            case 2:
                return packer.postings;
            case 3:
                return packer.top;
            case 4:
                return packer.sizeInBits;
            case 5:
                return packer.gapWidth;
            case 6:
                return packer.countWidth;
            default:
                return packer.jumpWidth;
        }
    }

    public int posting(int word, int k, int what) throws NoSuchElementException, IllegalArgumentException {
        needPosting(word, k);
        needBetween(what, 0, 3);
        int document = library.lists[word][k];
        switch (what) {
            case 0:
                return document;
            case 1:
                return library.counts[word][document];
            case 2:
                return library.gainOf(word, document);
            default:
                return library.blockAt(k);
        }
    }

    public int position(int word, int k, int i) throws NoSuchElementException {
        needPosting(word, k);
        return library.positionOf(word, library.lists[word][k], i);
    }

    public int common(int k) throws NoSuchElementException {
        if (k < 0 || k >= words.known) {
            refuseMissing();
        }
        return library.commonWord(k);
    }

    public int alike(int document, int other) throws NoSuchElementException {
        needDocument(document);
        needDocument(other);
        return library.wordsInBoth(document, other);
    }

    public int scored(int i, int what) throws IllegalArgumentException {
        needBetween(what, 0, 3);
        if (!question.hasScored(i)) {
            return NONE;
        }
        int word = question.scoredWords[i];
        switch (what) {
            case 0:
                return word;
            case 1:
                return question.boosts[i];
            case 2:
                return question.musts[i] ? 1 : 0;
            default:
                return question.boosts[i] * library.rareOf(word) * library.topOf(word);
        }
    }

    public int why(int document) throws NoSuchElementException {
        needDocument(document);
        return judge.whyNot(document, NONE);
    }

    public int score(int document) throws NoSuchElementException {
        needDocument(document);
        return judge.total(document, NONE);
    }

    public int near(int document) throws NoSuchElementException {
        needDocument(document);
        return judge.nearness(document, NONE);
    }

    public int window(int document, int what) throws NoSuchElementException, IllegalArgumentException {
        needDocument(document);
        needBetween(what, 0, 1);
        judge.findWindow(document);
        return what == 0 ? judge.windowBegin : judge.windowLength;
    }

    public int answers() {
        ranking.rank(NONE);
        return ranking.count;
    }

    public int answer(int k, int what) throws NoSuchElementException, IllegalArgumentException {
        ranking.rank(NONE);
        if (k < 0 || k >= ranking.count) {
            refuseMissing();
        }
        needBetween(what, 0, 1);
        return what == 0 ? ranking.documents[k] : ranking.scores[k];
    }

    public int place(int document) throws NoSuchElementException {
        needDocument(document);
        ranking.rank(NONE);
        return ranking.placeOf(document);
    }

    public int early(int k, int what) throws IllegalArgumentException {
        needBetween(k, 1, MOST_BEST);
        needBetween(what, 0, 8);
        hunt.run(k, library.size);
        switch (what) {
            case 0:
                return hunt.held;
            case 1:
                return hunt.floorNow();
            case 2:
                return hunt.turns;
            case 3:
                return hunt.allOpened();
            case 4:
                return hunt.allWork();
            case 5:
                return hunt.sought;
            case 6:
                return hunt.skips;
            case 7:
                return hunt.lookedAt;
            default:
                return hunt.spared();
        }
    }

    public int best(int k, int i) throws IllegalArgumentException {
        needBetween(k, 1, MOST_BEST);
        hunt.run(k, library.size);
        if (i < 0 || i >= hunt.held) {
            return NONE;
        }
        return hunt.bestDocuments[i];
    }

    public int opened(int k, int i, int block) throws NoSuchElementException, IllegalArgumentException {
        needScoredBlock(i, block);
        needBetween(k, 1, MOST_BEST);
        hunt.run(k, library.size);
        return hunt.cursors[i].openings[block];
    }

    public int inside(int word, int block) throws NoSuchElementException {
        needBlock(word, block);
        int from = block * library.size;
        int to = Math.min(from + library.size, library.postings[word]);
        int greatest = 0;
        for (int k = from; k < to; k++) {
            int document = library.lists[word][k];
            if (judge.whyNot(document, NONE) == 0) {
                greatest = Math.max(greatest, judge.total(document, NONE));
            }
        }
        return greatest;
    }

    public int bits(int size) throws IllegalArgumentException {
        needSize(size);
        return packer.allBits(size);
    }

    public int thrift() {
        int chosen = LEAST_SIZE;
        int fewest = packer.allBits(LEAST_SIZE);
        for (int size = LEAST_SIZE + 1; size <= GREATEST_SIZE; size++) {
            int bits = packer.allBits(size);
            if (bits < fewest) {
                fewest = bits;
                chosen = size;
            }
        }
        return chosen;
    }

    public int swift(int k, int what) throws IllegalArgumentException {
        needBetween(k, 1, MOST_BEST);
        needBetween(what, 0, 1);
        int chosen = LEAST_SIZE;
        int least = workBy(k, LEAST_SIZE);
        for (int size = LEAST_SIZE + 1; size <= GREATEST_SIZE; size++) {
            int work = workBy(k, size);
            if (work < least) {
                least = work;
                chosen = size;
            }
        }
        return what == 0 ? chosen : least;
    }

    public int blockOf(int word, int document) throws NoSuchElementException {
        needWord(word);
        needDocument(document);
        int blocks = library.blocksOf(word, library.size);
        for (int block = 0; block < blocks; block++) {
            packer.measure(word, block, library.size);
            if (packer.first <= document && document <= packer.last) {
                return block;
            }
        }
        return NONE;
    }

    public int full() {
        int found = 0;
        for (int document = 0; document < library.given; document++) {
            if (library.holds(document) && !library.isGone(document) && judge.hasAllScored(document)) {
                found++;
            }
        }
        return found;
    }

    public int spread(int postings) throws IllegalArgumentException {
        needBetween(postings, 0, MOST_DOCUMENTS);
        int found = 0;
        for (int word = 0; word < words.known; word++) {
            if (library.postings[word] == postings) {
                found++;
            }
        }
        return found;
    }

    public int nearest(int document) throws NoSuchElementException {
        needDocument(document);
        int chosen = NONE;
        int most = -1;
        for (int other = 0; other < library.given; other++) {
            if (other == document || !library.holds(other)) {
                continue;
            }
            int both = library.wordsInBoth(document, other);
            if (both > most) {
                most = both;
                chosen = other;
            }
        }
        return chosen;
    }

    public int rarest(int document) throws NoSuchElementException {
        needDocument(document);
        int chosen = NONE;
        int rarestYet = 0;
        int mostYet = 0;
        for (int word = 0; word < words.known; word++) {
            int count = library.counts[word][document];
            int rare = library.rareOf(word);
            if (count > 0 && (rare > rarestYet || rare == rarestYet && count > mostYet)) {
                chosen = word;
                rarestYet = rare;
                mostYet = count;
            }
        }
        return chosen;
    }

    public int points(int document, int i) throws NoSuchElementException {
        needDocument(document);
        return question.hasScored(i) ? judge.pointsOf(document, i) : NONE;
    }

    public int phrase(int document, int j) throws NoSuchElementException {
        needDocument(document);
        if (j < 0 || j >= question.phraseCount) {
            return NONE;
        }
        return judge.phraseBegins(document, j);
    }

    public int depth(int i, int block) throws NoSuchElementException {
        needScoredBlock(i, block);
        for (int k = 1; k <= MOST_BEST; k++) {
            hunt.run(k, library.size);
            if (hunt.cursors[i].openings[block] > 0) {
                return k;
            }
        }
        return NONE;
    }

    public int without(int k, int i) throws IllegalArgumentException {
        needBetween(k, 1, MOST_BEST);
        if (!question.hasScored(i)) {
            return NONE;
        }
        ranking.rank(NONE);
        trial.rank(i);
        int lost = 0;
        for (int place = 0; place < k && place < ranking.count; place++) {
            int then = trial.placeOf(ranking.documents[place]);
            if (then == NONE || then >= k) {
                lost++;
            }
        }
        return lost;
    }

    public int status(int what) {
        if (what == 0) {
            return missingRefused;
        }
        return what == 1 ? argumentsRefused : NONE;
    }

    private void putBytes(int number) {
        for (int shift = 24; shift >= 0; shift -= 8) {
            tape[tapeLength] = (number >>> shift) & 255;
            tapeLength++;
        }
    }

    /** The spelling of the first n bytes; 0, which no WORD has, if these are no WORD. */
    private long spellingOf(int n) {
        if (n > MOST_LETTERS) {
            return 0;
        }
        long spelling = 0;
        for (int i = 0; i < n; i++) {
            if (!isLetter(tape[i])) {
                return 0;
            }
            spelling = spelledOn(spelling, tape[i]);
        }
        return spelling;
    }

    private int workBy(int k, int size) {
        hunt.run(k, size);
        return hunt.allWork();
    }

    private void needBetween(int number, int least, int greatest) {
        if (number < least || number > greatest) {
            refuseArgument();
        }
    }

    private void needSize(int size) {
        needBetween(size, LEAST_SIZE, GREATEST_SIZE);
    }

    private void needDocument(int document) {
        if (!library.holds(document)) {
            refuseMissing();
        }
    }

    private void needWord(int word) {
        if (word < 0 || word >= words.known) {
            refuseMissing();
        }
    }

    private void needBlock(int word, int block) {
        needWord(word);
        if (block < 0 || block >= library.blocksOf(word, library.size)) {
            refuseMissing();
        }
    }

    private void needPosting(int word, int k) {
        needWord(word);
        if (k < 0 || k >= library.postings[word]) {
            refuseMissing();
        }
    }

    private void needScoredBlock(int i, int block) {
        if (!question.hasScored(i)) {
            refuseMissing();
        }
        needBlock(question.scoredWords[i], block);
    }

    private void refuseMissing() {
        missingRefused++;
        throw new NoSuchElementException("there is no such one");
    }

    private void refuseArgument() {
        argumentsRefused++;
        throw new IllegalArgumentException("a number that is not allowed here");
    }

    private static boolean isLetter(int sign) {
        return sign >= 'a' && sign <= 'z';
    }

    /** A spelling with one letter more: five bits a letter, a as 1, so that no two WORDS have the same one. */
    private static long spelledOn(long spelling, int letter) {
        return spelling * 32 + (letter - 'a' + 1);
    }

    /** The known WORDS, numbered as they stood first. */
    static final class Words {
        private final long[] spellings = new long[MOST_WORDS];
        int known = 0;

        int numberOf(long spelling) {
            for (int word = 0; word < known; word++) {
                if (spellings[word] == spelling) {
                    return word;
                }
            }
            return NONE;
        }

        /** The number of a WORD that is known from now on, if it was not; NONE, if it is one too many. */
        int learn(long spelling) {
            int number = numberOf(spelling);
            if (number != NONE || known >= MOST_WORDS) {
                return number;
            }
            spellings[known] = spelling;
            known++;
            return known - 1;
        }

        int lettersOf(int word) {
            int letters = 0;
            for (long rest = spellings[word]; rest > 0; rest /= 32) {
                letters++;
            }
            return letters;
        }

        int letterOf(int word, int k) {
            int letters = lettersOf(word);
            if (k < 0 || k >= letters) {
                return NONE;
            }
            long rest = spellings[word];
            for (int behind = letters - 1; behind > k; behind--) {
                rest /= 32;
            }
            return (int) (rest % 32) - 1;
        }
    }

    /** The DOCUMENTS, and the LISTS of their WORDS. */
    static final class Library {
        private static final int THERE = 0;
        private static final int GONE = 1;
        private static final int PURGED = 2;

        final Words words;
        final int[][] texts = new int[MOST_DOCUMENTS][MOST_POSITIONS];
        final int[] lengths = new int[MOST_DOCUMENTS];
        private final int[] states = new int[MOST_DOCUMENTS];
        int given = 0;
        int there = 0;
        int gone = 0;
        int size = FIRST_SIZE;
        /** By WORD and DOCUMENT: how often it stands there, and the greatest GAP of POSITIONS. */
        final int[][] counts = new int[MOST_WORDS][MOST_DOCUMENTS];
        final int[][] jumps = new int[MOST_WORDS][MOST_DOCUMENTS];
        /** By WORD and POSTING: the DOCUMENT. */
        final int[][] lists = new int[MOST_WORDS][MOST_DOCUMENTS];
        final int[] postings = new int[MOST_WORDS];
        private final int[] latest = new int[MOST_WORDS];

        Library(Words words) {
            this.words = words;
        }

        boolean holds(int document) {
            return document >= 0 && document < given && states[document] != PURGED;
        }

        boolean isGone(int document) {
            return states[document] == GONE;
        }

        int shelve(int[] text, int length) {
            int document = given;
            given++;
            there++;
            states[document] = THERE;
            lengths[document] = length;
            for (int position = 0; position < length; position++) {
                texts[document][position] = text[position];
                post(text[position], document, position);
            }
            return document;
        }

        private void post(int word, int document, int position) {
            int jump = position + 1;
            if (counts[word][document] == 0) {
                lists[word][postings[word]] = document;
                postings[word]++;
            } else {
                jump = position - latest[word];
            }
            latest[word] = position;
            counts[word][document]++;
            jumps[word][document] = Math.max(jumps[word][document], jump);
        }

        int takeAway(int document) {
            states[document] = GONE;
            gone++;
            return gone;
        }

        int purge() {
            int purged = gone;
            for (int document = 0; document < given; document++) {
                if (states[document] == GONE) {
                    states[document] = PURGED;
                }
            }
            there -= purged;
            gone = 0;
            for (int word = 0; word < words.known; word++) {
                keepHeld(word);
            }
            return purged;
        }

        private void keepHeld(int word) {
            int kept = 0;
            for (int k = 0; k < postings[word]; k++) {
                int document = lists[word][k];
                if (holds(document)) {
                    lists[word][kept] = document;
                    kept++;
                }
            }
            postings[word] = kept;
        }

        int blocksOf(int word, int blockSize) {
            return (postings[word] + blockSize - 1) / Math.max(blockSize, LEAST_SIZE);
        }

        int blockAt(int k) {
            return k / Math.max(size, LEAST_SIZE);
        }

        int allPostings() {
            int all = 0;
            for (int word = 0; word < words.known; word++) {
                all += postings[word];
            }
            return all;
        }

        int gainOf(int word, int document) {
            int count = counts[word][document];
            return count * 1000 / (count + 1 + lengths[document] / 4);
        }

        int topOf(int word) {
            int top = 0;
            for (int k = 0; k < postings[word]; k++) {
                top = Math.max(top, gainOf(word, lists[word][k]));
            }
            return top;
        }

        int rareOf(int word) {
            if (postings[word] == 0) {
                return 0;
            }
            int rare = 1;
            for (int share = there / postings[word]; share > 1; share /= 2) {
                rare++;
            }
            return rare;
        }

        int standsOften(int word) {
            int often = 0;
            for (int k = 0; k < postings[word]; k++) {
                often += counts[word][lists[word][k]];
            }
            return often;
        }

        int positionOf(int word, int document, int i) {
            int ahead = 0;
            for (int position = 0; position < lengths[document]; position++) {
                if (texts[document][position] == word) {
                    if (ahead == i) {
                        return position;
                    }
                    ahead++;
                }
            }
            return NONE;
        }

        int unlikeWords(int document) {
            return wordsInBoth(document, document);
        }

        int wordsInBoth(int document, int other) {
            int both = 0;
            for (int word = 0; word < words.known; word++) {
                if (counts[word][document] > 0 && counts[word][other] > 0) {
                    both++;
                }
            }
            return both;
        }

        int mostOften(int document) {
            int chosen = 0;
            for (int word = 1; word < words.known; word++) {
                if (counts[word][document] > counts[chosen][document]) {
                    chosen = word;
                }
            }
            return chosen;
        }

        /** The k-th WORD by POSTINGS; k is less than how many WORDS are known. */
        int commonWord(int k) {
            int left = k;
            for (int held = MOST_DOCUMENTS; held >= 0; held--) {
                for (int word = 0; word < words.known; word++) {
                    if (postings[word] == held) {
                        if (left == 0) {
                            return word;
                        }
                        left--;
                    }
                }
            }
            return NONE;
        }
    }

    /** Measures BLOCKS of LISTS, by any SIZE; what measure() found stands in its fields until the next one. */
    static final class Packer {
        private static final int HEAD_BITS = 32;

        private final Library library;
        int first = 0;
        int last = 0;
        int postings = 0;
        int top = 0;
        int sizeInBits = 0;
        int gapWidth = 0;
        int countWidth = 0;
        int jumpWidth = 0;

        Packer(Library library) {
            this.library = library;
        }

        /** The BLOCK must be one of the LIST by that SIZE. */
        void measure(int word, int block, int size) {
            int[] list = library.lists[word];
            int from = block * size;
            int to = Math.min(from + size, library.postings[word]);
            int before = from == 0 ? NONE : list[from - 1];
            int gap = 0;
            int count = 0;
            int jump = 0;
            int positions = 0;
            top = 0;
            for (int k = from; k < to; k++) {
                int document = list[k];
                gap = Math.max(gap, document - before);
                count = Math.max(count, library.counts[word][document]);
                jump = Math.max(jump, library.jumps[word][document]);
                positions += library.counts[word][document];
                top = Math.max(top, library.gainOf(word, document));
                before = document;
            }
            first = list[from];
            last = before;
            postings = to - from;
            gapWidth = widthOf(gap);
            countWidth = widthOf(count);
            jumpWidth = widthOf(jump);
            sizeInBits = HEAD_BITS + postings * (gapWidth + countWidth) + positions * jumpWidth;
        }

        private static int widthOf(int number) {
            int width = 0;
            for (int rest = number; rest > 0; rest /= 2) {
                width++;
            }
            return width;
        }

        int bitsOf(int word, int size) {
            int bits = 0;
            int blocks = library.blocksOf(word, size);
            for (int block = 0; block < blocks; block++) {
                measure(word, block, size);
                bits += sizeInBits;
            }
            return bits;
        }

        int allBits(int size) {
            int bits = 0;
            for (int word = 0; word < library.words.known; word++) {
                bits += bitsOf(word, size);
            }
            return bits;
        }

        int allBlocks(int size) {
            int blocks = 0;
            for (int word = 0; word < library.words.known; word++) {
                blocks += library.blocksOf(word, size);
            }
            return blocks;
        }
    }

    /** Reads a DOCUMENT from bytes; its WORDS become known, unless there is a FAULT. */
    static final class DocumentReader {
        private final Words words;
        final int[] text = new int[MOST_POSITIONS];
        int length = 0;
        int faultPlace = NONE;

        DocumentReader(Words words) {
            this.words = words;
        }

        int read(int[] bytes, int n) {
            int knownBefore = words.known;
            int fault = readWords(bytes, n);
            if (fault == 0) {
                faultPlace = NONE;
            } else {
                words.known = knownBefore;
            }
            return fault;
        }

        private int readWords(int[] bytes, int n) {
            length = 0;
            int begin = NONE;
            long spelling = 0;
            for (int i = 0; i <= n; i++) {
                int sign = i < n ? bytes[i] : BLANK;
                if (isLetter(sign)) {
                    if (begin == NONE) {
                        begin = i;
                        spelling = 0;
                        if (length >= MOST_POSITIONS) {
                            return faultAt(TOO_MANY, i);
                        }
                    }
                    if (i - begin >= MOST_LETTERS) {
                        return faultAt(NOT_THERE, i);
                    }
                    spelling = spelledOn(spelling, sign);
                    continue;
                }
                if (begin != NONE && !take(spelling)) {
                    return faultAt(TOO_MANY, begin);
                }
                begin = NONE;
                if (sign != BLANK) {
                    return faultAt(NOT_THERE, i);
                }
            }
            return length == 0 ? faultAt(NOT_THERE, n) : 0;
        }

        private boolean take(long spelling) {
            int word = words.learn(spelling);
            if (word == NONE) {
                return false;
            }
            text[length] = word;
            length++;
            return true;
        }

        private int faultAt(int fault, int place) {
            faultPlace = place;
            return fault;
        }
    }

    /** What a QUESTION asks for, its WORDS by their numbers. */
    static final class Question {
        int parts = 0;
        int scoredCount = 0;
        final int[] scoredWords = new int[MOST_SCORED];
        final int[] boosts = new int[MOST_SCORED];
        final boolean[] musts = new boolean[MOST_SCORED];
        boolean mustUnknown = false;
        int notCount = 0;
        final int[] notWords = new int[MOST_PARTS];
        int phraseCount = 0;
        final int[] phraseLengths = new int[MOST_PARTS];
        final int[][] phraseWords = new int[MOST_PARTS][MOST_IN_PHRASE];
        /** The DIGIT behind "~"; 0 without. */
        int reach = 0;

        boolean hasScored(int i) {
            return i >= 0 && i < scoredCount;
        }

        void clear() {
            parts = 0;
            scoredCount = 0;
            mustUnknown = false;
            notCount = 0;
            phraseCount = 0;
            reach = 0;
        }

        void copyFrom(Question other) {
            parts = other.parts;
            scoredCount = other.scoredCount;
            mustUnknown = other.mustUnknown;
            notCount = other.notCount;
            phraseCount = other.phraseCount;
            reach = other.reach;
            for (int i = 0; i < scoredCount; i++) {
                scoredWords[i] = other.scoredWords[i];
                boosts[i] = other.boosts[i];
                musts[i] = other.musts[i];
            }
            for (int i = 0; i < MOST_PARTS; i++) {
                notWords[i] = other.notWords[i];
                phraseLengths[i] = other.phraseLengths[i];
                for (int k = 0; k < MOST_IN_PHRASE; k++) {
                    phraseWords[i][k] = other.phraseWords[i][k];
                }
            }
        }

        void want(int word, int boost, boolean must) {
            if (word == NONE) {
                mustUnknown = mustUnknown || must;
                return;
            }
            int i = scoredIndex(word);
            boosts[i] += boost;
            musts[i] = musts[i] || must;
        }

        private int scoredIndex(int word) {
            for (int i = 0; i < scoredCount; i++) {
                if (scoredWords[i] == word) {
                    return i;
                }
            }
            scoredWords[scoredCount] = word;
            boosts[scoredCount] = 0;
            musts[scoredCount] = false;
            scoredCount++;
            return scoredCount - 1;
        }

        void refuse(int word) {
            if (word != NONE) {
                notWords[notCount] = word;
                notCount++;
            }
        }

        void beginPhrase() {
            phraseLengths[phraseCount] = 0;
            phraseCount++;
        }

        int phraseLengthNow() {
            return phraseCount == 0 ? 0 : phraseLengths[phraseCount - 1];
        }

        void lengthenPhrase(int word) {
            int j = phraseCount - 1;
            phraseWords[j][phraseLengths[j]] = word;
            phraseLengths[j]++;
            want(word, 1, true);
        }

        int mostNear() {
            return scoredCount == 0 ? 0 : (scoredCount - 1) * NEAR_STEP * reach;
        }
    }

    /** Reads a QUESTION, byte by byte, into a draft. */
    static final class QuestionReader {
        private static final int BETWEEN = 0;
        private static final int BEHIND_SIGN = 1;
        private static final int IN_WORD = 2;
        private static final int BEHIND_CARET = 3;
        private static final int BEHIND_TILDE = 4;
        private static final int IN_PHRASE = 5;
        private static final int IN_PHRASE_WORD = 6;
        private static final int END = -1;

        private final Words words;
        final Question draft = new Question();
        int faultPlace = NONE;
        private int state = BETWEEN;
        /** "+", "-", or 0: what stands ahead of the WORD. */
        private int mark = 0;
        private int letters = 0;
        private long spelling = 0;

        QuestionReader(Words words) {
            this.words = words;
        }

        int read(int[] bytes, int n) {
            draft.clear();
            state = BETWEEN;
            for (int i = 0; i <= n; i++) {
                int fault = step(i < n ? bytes[i] : END);
                if (fault != 0) {
                    faultPlace = i;
                    return fault;
                }
            }
            faultPlace = NONE;
            return 0;
        }

        /** The FAULT that this sign is; 0: it can stand here. */
        private int step(int sign) {
            switch (state) {
                case BEHIND_SIGN:
                    return beginWord(sign, IN_WORD);
                case IN_WORD:
                    if (isLetter(sign)) {
                        return spellOn(sign);
                    }
                    return endWord(sign) ? stepBetween(sign) : 0;
                case BEHIND_CARET:
                    return readBoost(sign);
                case BEHIND_TILDE:
                    return readReach(sign);
                case IN_PHRASE:
                    return stepInPhrase(sign);
                case IN_PHRASE_WORD:
                    if (isLetter(sign)) {
                        return spellOn(sign);
                    }
                    draft.lengthenPhrase(words.numberOf(spelling));
                    state = IN_PHRASE;
                    return stepInPhrase(sign);
                default:
                    return stepBetween(sign);
            }
        }

        private int stepBetween(int sign) {
            if (sign == END) {
                return draft.parts == 0 ? NOT_THERE : 0;
            }
            if (sign == BLANK) {
                return 0;
            }
            boolean secondTilde = sign == '~' && draft.reach > 0;
            if (!canBegin(sign) || secondTilde) {
                return NOT_THERE;
            }
            if (draft.parts >= MOST_PARTS) {
                return TOO_MANY;
            }
            draft.parts++;
            return beginPart(sign);
        }

        private static boolean canBegin(int sign) {
            return isLetter(sign) || sign == '+' || sign == '-' || sign == '"' || sign == '~';
        }

        private int beginPart(int sign) {
            mark = 0;
            switch (sign) {
                case '+':
                case '-':
                    mark = sign;
                    state = BEHIND_SIGN;
                    return 0;
                case '"':
                    draft.beginPhrase();
                    state = IN_PHRASE;
                    return 0;
                case '~':
                    state = BEHIND_TILDE;
                    return 0;
                default:
                    return beginWord(sign, IN_WORD);
            }
        }

        private int beginWord(int sign, int stateInWord) {
            if (!isLetter(sign)) {
                return NOT_THERE;
            }
            letters = 0;
            spelling = 0;
            state = stateInWord;
            return spellOn(sign);
        }

        private int spellOn(int sign) {
            if (letters >= MOST_LETTERS) {
                return NOT_THERE;
            }
            letters++;
            spelling = spelledOn(spelling, sign);
            return 0;
        }

        /** Whether the PART ends ahead of this sign, too. */
        private boolean endWord(int sign) {
            if (mark != '-' && sign == '^') {
                state = BEHIND_CARET;
                return false;
            }
            int word = words.numberOf(spelling);
            if (mark == '-') {
                draft.refuse(word);
            } else {
                draft.want(word, 1, mark == '+');
            }
            state = BETWEEN;
            return true;
        }

        private int readBoost(int sign) {
            if (!isDigit(sign)) {
                return NOT_THERE;
            }
            draft.want(words.numberOf(spelling), sign - '0', mark == '+');
            state = BETWEEN;
            return 0;
        }

        private int readReach(int sign) {
            if (!isDigit(sign)) {
                return NOT_THERE;
            }
            draft.reach = sign - '0';
            state = BETWEEN;
            return 0;
        }

        private int stepInPhrase(int sign) {
            if (sign == BLANK) {
                return 0;
            }
            if (sign == '"' && draft.phraseLengthNow() >= 2) {
                state = BETWEEN;
                return 0;
            }
            if (isLetter(sign) && draft.phraseLengthNow() >= MOST_IN_PHRASE) {
                return TOO_MANY;
            }
            return beginWord(sign, IN_PHRASE_WORD);
        }

        private static boolean isDigit(int sign) {
            return sign >= '1' && sign <= '9';
        }
    }

    /**
     * Tells of one DOCUMENT whether it is a MATCH, and its SCORE. Where a method has leftOut, that SCORED WORD
     * is taken as none (NONE: all are there).
     */
    static final class Judge {
        private final Library library;
        private final Question question;
        private final int[] seen = new int[MOST_SCORED];
        int windowBegin = NONE;
        int windowLength = 0;

        Judge(Library library, Question question) {
            this.library = library;
            this.question = question;
        }

        int whyNot(int document, int leftOut) {
            if (library.isGone(document)) {
                return 1;
            }
            if (!hasSomeScored(document, leftOut)) {
                return 2;
            }
            if (missesMust(document)) {
                return 3;
            }
            if (hasNot(document)) {
                return 4;
            }
            return missesPhrase(document) ? 5 : 0;
        }

        private boolean hasWord(int document, int word) {
            return library.counts[word][document] > 0;
        }

        private boolean hasSomeScored(int document, int leftOut) {
            for (int i = 0; i < question.scoredCount; i++) {
                if (i != leftOut && hasWord(document, question.scoredWords[i])) {
                    return true;
                }
            }
            return false;
        }

        boolean hasAllScored(int document) {
            for (int i = 0; i < question.scoredCount; i++) {
                if (!hasWord(document, question.scoredWords[i])) {
                    return false;
                }
            }
            return question.scoredCount > 0;
        }

        private boolean missesMust(int document) {
            for (int i = 0; i < question.scoredCount; i++) {
                if (question.musts[i] && !hasWord(document, question.scoredWords[i])) {
                    return true;
                }
            }
            return question.mustUnknown;
        }

        private boolean hasNot(int document) {
            for (int i = 0; i < question.notCount; i++) {
                if (hasWord(document, question.notWords[i])) {
                    return true;
                }
            }
            return false;
        }

        private boolean missesPhrase(int document) {
            for (int j = 0; j < question.phraseCount; j++) {
                if (phraseBegins(document, j) == 0) {
                    return true;
                }
            }
            return false;
        }

        int phraseBegins(int document, int j) {
            int[] text = library.texts[document];
            int[] phrase = question.phraseWords[j];
            int length = question.phraseLengths[j];
            int begins = 0;
            for (int position = 0; position + length <= library.lengths[document]; position++) {
                int fitting = 0;
                while (fitting < length && text[position + fitting] == phrase[fitting]) {
                    fitting++;
                }
                if (fitting == length) {
                    begins++;
                }
            }
            return begins;
        }

        int pointsOf(int document, int i) {
            int word = question.scoredWords[i];
            return question.boosts[i] * library.rareOf(word) * library.gainOf(word, document);
        }

        int total(int document, int leftOut) {
            int sum = nearness(document, leftOut);
            for (int i = 0; i < question.scoredCount; i++) {
                if (i != leftOut) {
                    sum += pointsOf(document, i);
                }
            }
            return sum;
        }

        int nearness(int document, int leftOut) {
            int sum = 0;
            int before = NONE;
            for (int i = 0; i < question.scoredCount && question.reach > 0; i++) {
                if (i == leftOut) {
                    continue;
                }
                if (before != NONE) {
                    int apart = leastDistance(document, question.scoredWords[before], question.scoredWords[i]);
                    sum += NEAR_STEP * Math.max(0, question.reach + 1 - apart);
                }
                before = i;
            }
            return sum;
        }

        /** Above every DIGIT, if one of the WORDS is not there. */
        private int leastDistance(int document, int one, int other) {
            int least = MOST_POSITIONS;
            int latestOne = NONE;
            int latestOther = NONE;
            int[] text = library.texts[document];
            for (int position = 0; position < library.lengths[document]; position++) {
                if (text[position] == one) {
                    latestOne = position;
                } else if (text[position] == other) {
                    latestOther = position;
                }
                if (latestOne != NONE && latestOther != NONE) {
                    least = Math.min(least, Math.abs(latestOne - latestOther));
                }
            }
            return least;
        }

        /** Goes by the shortest row that ends at each POSITION: it begins where the one seen longest ago stood last. */
        void findWindow(int document) {
            windowBegin = NONE;
            windowLength = 0;
            for (int i = 0; i < question.scoredCount; i++) {
                seen[i] = NONE;
            }
            for (int position = 0; position < library.lengths[document]; position++) {
                noteSeen(library.texts[document][position], position);
                int begin = longestAgo(document);
                int length = position - begin + 1;
                if (begin != NONE && (windowBegin == NONE || length < windowLength)) {
                    windowBegin = begin;
                    windowLength = length;
                }
            }
        }

        private void noteSeen(int word, int position) {
            for (int i = 0; i < question.scoredCount; i++) {
                if (question.scoredWords[i] == word) {
                    seen[i] = position;
                }
            }
        }

        /** NONE, as long as not all are seen that the DOCUMENT has, and if it has none. */
        private int longestAgo(int document) {
            int begin = MOST_POSITIONS;
            for (int i = 0; i < question.scoredCount; i++) {
                if (hasWord(document, question.scoredWords[i])) {
                    begin = Math.min(begin, seen[i]);
                }
            }
            return begin == MOST_POSITIONS ? NONE : begin;
        }
    }

    /** ANSWERS, by going through all DOCUMENTS. */
    static final class Ranking {
        private final Library library;
        private final Judge judge;
        final int[] documents = new int[MOST_DOCUMENTS];
        final int[] scores = new int[MOST_DOCUMENTS];
        int count = 0;

        Ranking(Library library, Judge judge) {
            this.library = library;
            this.judge = judge;
        }

        void rank(int leftOut) {
            count = 0;
            for (int document = 0; document < library.given; document++) {
                if (library.holds(document) && judge.whyNot(document, leftOut) == 0) {
                    insert(document, judge.total(document, leftOut));
                }
            }
        }

        /** DOCUMENTS come by their numbers, so one goes behind those with the same SCORE. */
        private void insert(int document, int total) {
            int slot = count;
            for (; slot > 0 && scores[slot - 1] < total; slot--) {
                documents[slot] = documents[slot - 1];
                scores[slot] = scores[slot - 1];
            }
            documents[slot] = document;
            scores[slot] = total;
            count++;
        }

        int placeOf(int document) {
            for (int k = 0; k < count; k++) {
                if (documents[k] == document) {
                    return k;
                }
            }
            return NONE;
        }
    }

    /** The LIST of a SCORED WORD while EARLY goes through it. */
    static final class Cursor {
        private final Library library;
        private final Packer packer;
        private final int[] firsts = new int[MOST_BLOCKS];
        private final int[] lasts = new int[MOST_BLOCKS];
        private final int[] tops = new int[MOST_BLOCKS];
        final int[] openings = new int[MOST_BLOCKS];
        private int word = 0;
        private int size = FIRST_SIZE;
        private int weight = 0;
        int blocks = 0;
        int bound = 0;
        private int block = 0;
        int place = 0;
        boolean ended = true;
        private int openedLast = NONE;
        int openedOften = 0;
        int work = 0;

        Cursor(Library library, Packer packer) {
            this.library = library;
            this.packer = packer;
        }

        void start(int scoredWord, int boost, int blockSize) {
            word = scoredWord;
            size = blockSize;
            weight = boost * library.rareOf(word);
            blocks = library.blocksOf(word, size);
            int top = 0;
            for (int b = 0; b < blocks; b++) {
                packer.measure(word, b, size);
                firsts[b] = packer.first;
                lasts[b] = packer.last;
                tops[b] = packer.top;
                openings[b] = 0;
                top = Math.max(top, packer.top);
            }
            bound = weight * top;
            block = 0;
            ended = blocks == 0;
            place = ended ? 0 : firsts[0];
            openedLast = NONE;
            openedOften = 0;
            work = 0;
        }

        void dip(int document) {
            block = blockReaching(document);
            ended = block >= blocks;
            if (!ended) {
                place = Math.max(document, firsts[block]);
            }
        }

        void seek(int document) {
            if (place < document) {
                dip(document);
            }
            if (!ended) {
                open();
                moveOn(document);
            }
        }

        private void open() {
            if (openedLast != block) {
                openedLast = block;
                openings[block]++;
                openedOften++;
                work += Math.min(size, library.postings[word] - block * size);
            }
        }

        private void moveOn(int document) {
            int from = block * size;
            int to = Math.min(from + size, library.postings[word]);
            for (int k = from; k < to; k++) {
                if (library.lists[word][k] >= document) {
                    place = library.lists[word][k];
                    return;
                }
            }
        }

        /** The first BLOCK, from its own on, whose LAST is not less; how many BLOCKS there are, if there is none. */
        private int blockReaching(int document) {
            int reaching = block;
            while (reaching < blocks && lasts[reaching] < document) {
                reaching++;
            }
            return reaching;
        }

        int boundReaching(int document) {
            int reaching = blockReaching(document);
            return reaching < blocks ? weight * tops[reaching] : 0;
        }

        /** LAST and 1 of the BLOCK that reaches the DOCUMENT; above all numbers without. */
        int behindReaching(int document) {
            int reaching = blockReaching(document);
            return reaching < blocks ? lasts[reaching] + 1 : MOST_DOCUMENTS;
        }
    }

    /** EARLY: the best few by cursors, a pivot, and bounds of LISTS and of BLOCKS. */
    static final class Hunt {
        /** Far above what 24 LISTS of 64 POSTINGS can need. */
        private static final int MOST_TURNS = 1000000;

        private final Question question;
        private final Judge judge;
        final Cursor[] cursors = new Cursor[MOST_SCORED];
        /** Which cursors are not ENDED, by PLACE; the first of these are HERE. */
        private final int[] line = new int[MOST_SCORED];
        private int waiting = 0;
        private int here = 0;
        private int wanted = 1;
        final int[] bestDocuments = new int[MOST_BEST];
        private final int[] bestScores = new int[MOST_BEST];
        int held = 0;
        int turns = 0;
        int sought = 0;
        int skips = 0;
        int lookedAt = 0;

        Hunt(Library library, Packer packer, Question question, Judge judge) {
            this.question = question;
            this.judge = judge;
            for (int i = 0; i < MOST_SCORED; i++) {
                cursors[i] = new Cursor(library, packer);
            }
        }

        void run(int k, int size) {
            wanted = k;
            held = 0;
            turns = 0;
            sought = 0;
            skips = 0;
            lookedAt = 0;
            for (int i = 0; i < question.scoredCount; i++) {
                cursors[i].start(question.scoredWords[i], question.boosts[i], size);
            }
            boolean over = question.scoredCount == 0;
            for (int turn = 0; turn < MOST_TURNS && !over; turn++) {
                turns++;
                over = !takeTurn();
            }
        }

        int floorNow() {
            return held < wanted ? 0 : bestScores[wanted - 1];
        }

        /** False: it is over. */
        private boolean takeTurn() {
            lineUp();
            int pivot = findPivot();
            if (pivot == NONE) {
                return false;
            }
            int document = cursors[line[pivot]].place;
            countHere(document);
            if (boundHere(document) <= floorNow()) {
                skip(document);
            } else if (cursors[line[0]].place < document) {
                sought++;
                cursors[line[0]].seek(document);
            } else {
                if (seekAll(document)) {
                    lookAt(document);
                }
                leave(document);
            }
            return true;
        }

        private void lineUp() {
            waiting = 0;
            for (int i = 0; i < question.scoredCount; i++) {
                if (cursors[i].ended) {
                    continue;
                }
                int slot = waiting;
                for (; slot > 0 && cursors[line[slot - 1]].place > cursors[i].place; slot--) {
                    line[slot] = line[slot - 1];
                }
                line[slot] = i;
                waiting++;
            }
        }

        private int findPivot() {
            int sum = question.mostNear();
            for (int slot = 0; slot < waiting; slot++) {
                sum += cursors[line[slot]].bound;
                if (sum > floorNow()) {
                    return slot;
                }
            }
            return NONE;
        }

        private void countHere(int document) {
            here = 0;
            while (here < waiting && cursors[line[here]].place <= document) {
                here++;
            }
        }

        private int boundHere(int document) {
            int sum = question.mostNear();
            for (int slot = 0; slot < here; slot++) {
                sum += cursors[line[slot]].boundReaching(document);
            }
            return sum;
        }

        private void skip(int document) {
            skips++;
            int next = here < waiting ? cursors[line[here]].place : MOST_DOCUMENTS;
            for (int slot = 0; slot < here; slot++) {
                next = Math.min(next, cursors[line[slot]].behindReaching(document));
            }
            for (int slot = 0; slot < here; slot++) {
                cursors[line[slot]].dip(next);
            }
        }

        /** Whether any of HERE is at the DOCUMENT then. */
        private boolean seekAll(int document) {
            boolean any = false;
            for (int slot = 0; slot < here; slot++) {
                Cursor cursor = cursors[line[slot]];
                sought++;
                cursor.seek(document);
                any = any || cursor.place == document;
            }
            return any;
        }

        private void leave(int document) {
            for (int slot = 0; slot < here; slot++) {
                Cursor cursor = cursors[line[slot]];
                if (cursor.place == document) {
                    cursor.dip(document + 1);
                }
            }
        }

        private void lookAt(int document) {
            lookedAt++;
            if (judge.whyNot(document, NONE) != 0) {
                return;
            }
            int total = judge.total(document, NONE);
            if (held >= wanted) {
                if (total <= floorNow()) {
                    return;
                }
                held = wanted - 1;
            }
            int slot = held;
            for (; slot > 0 && bestScores[slot - 1] < total; slot--) {
                bestDocuments[slot] = bestDocuments[slot - 1];
                bestScores[slot] = bestScores[slot - 1];
            }
            bestDocuments[slot] = document;
            bestScores[slot] = total;
            held++;
        }

        int allOpened() {
            int opened = 0;
            for (int i = 0; i < question.scoredCount; i++) {
                opened += cursors[i].openedOften;
            }
            return opened;
        }

        int allWork() {
            int work = 0;
            for (int i = 0; i < question.scoredCount; i++) {
                work += cursors[i].work;
            }
            return work;
        }

        int spared() {
            int spared = 0;
            for (int i = 0; i < question.scoredCount; i++) {
                for (int block = 0; block < cursors[i].blocks; block++) {
                    if (cursors[i].openings[block] == 0) {
                        spared++;
                    }
                }
            }
            return spared;
        }
    }
}
