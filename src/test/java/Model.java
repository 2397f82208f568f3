import java.util.ArrayList;
import java.util.Arrays;
import java.util.Comparator;
import java.util.LinkedHashMap;
import java.util.List;
import java.util.Map;
import java.util.NoSuchElementException;
import java.util.TreeMap;

/**
 * The document's words once more, from scratch at each call, over texts and library collections: what the class
 * answers is compared with what this answers. It shares no code and no way of holding things with the class.
 */
final class Model {
    static final int NONE = -1;

    /** A text that is refused: its FAULT and where. */
    private static final class Fault extends Exception {
        private static final long serialVersionUID = 1L;
        final int kind;
        final int place;

        Fault(int kind, int place) {
            this.kind = kind;
            this.place = place;
        }
    }

    private record Block(List<Integer> documents, int top, int bits, int[] widths) {
        int first() {
            return documents.get(0);
        }

        int last() {
            return documents.get(documents.size() - 1);
        }
    }

    private static final class Asked {
        int parts;
        final Map<Integer, Integer> boosts = new LinkedHashMap<>();
        final List<Integer> must = new ArrayList<>();
        final List<Integer> not = new ArrayList<>();
        final List<List<Integer>> phrases = new ArrayList<>();
        int reach;

        List<Integer> scored() {
            return new ArrayList<>(boosts.keySet());
        }
    }

    private static final class Outcome {
        final List<Integer> best = new ArrayList<>();
        int floor;
        int turns;
        int opened;
        int work;
        int sought;
        int skips;
        int looked;
        final Map<List<Integer>, Integer> openings = new TreeMap<>(Comparator.comparing(Object::toString));
    }

    private String tape = "";
    private final List<String> known = new ArrayList<>();
    private final TreeMap<Integer, List<String>> texts = new TreeMap<>();
    private final List<Integer> gone = new ArrayList<>();
    private int given;
    private int size = 4;
    private Asked asked = new Asked();
    private int fault = NONE;
    private final int[] refused = new int[2];

    // what is asked

    int feed(int... numbers) {
        if (tape.length() > 280) {
            return NONE;
        }
        StringBuilder more = new StringBuilder();
        for (int number : numbers) {
            for (byte b : java.nio.ByteBuffer.allocate(4).putInt(number).array()) {
                more.append((char) Byte.toUnsignedInt(b));
            }
        }
        tape += more;
        return tape.length();
    }

    int add(int n) {
        legal(n >= 0 && n <= tape.length() && given < 64);
        String text = take(n);
        try {
            List<String> words = readDocument(text);
            for (String word : words) {
                if (!known.contains(word)) {
                    known.add(word);
                }
            }
            texts.put(given, words);
            fault = NONE;
            return given++;
        } catch (Fault f) {
            fault = f.place;
            return f.kind - 10;
        }
    }

    int ask(int n) {
        legal(n >= 0 && n <= 120 && n <= tape.length());
        String text = take(n);
        try {
            asked = new Reader(text).question();
            fault = NONE;
            return asked.boosts.size();
        } catch (Fault f) {
            fault = f.place;
            return f.kind - 10;
        }
    }

    int fault() {
        return fault;
    }

    int find(int n) {
        legal(n >= 0 && n <= tape.length());
        String text = take(n);
        return text.matches("[a-z]{1,8}") ? known.indexOf(text) : NONE;
    }

    int remove(int document) {
        there(texts.containsKey(document) && !gone.contains(document));
        gone.add(document);
        return gone.size();
    }

    int repack(int newSize) {
        legal(newSize >= 2 && newSize <= 8);
        size = newSize;
        int purged = gone.size();
        for (int document : gone) {
            texts.remove(document);
        }
        gone.clear();
        return purged;
    }

    int told(int what) {
        legal(what >= 0 && what <= 9);
        int postings = 0;
        int blocks = 0;
        for (int word = 0; word < known.size(); word++) {
            postings += list(word).size();
            blocks += blocks(word, size).size();
        }
        return new int[] {texts.size(), gone.size(), known.size(), postings, blocks, allBits(size), size,
            asked.boosts.size(), asked.parts, given}[what];
    }

    int document(int document, int what) {
        there(texts.containsKey(document));
        legal(what >= 0 && what <= 4);
        List<String> text = texts.get(document);
        String most = text.stream().distinct()
            .min(Comparator.comparing((String w) -> -often(text, w)).thenComparing(known::indexOf)).orElseThrow();
        return new int[] {text.size(), (int) text.stream().distinct().count(), gone.contains(document) ? 1 : 0,
            known.indexOf(most), often(text, most)}[what];
    }

    int at(int document, int position) {
        there(texts.containsKey(document));
        List<String> text = texts.get(document);
        return position >= 0 && position < text.size() ? known.indexOf(text.get(position)) : NONE;
    }

    int word(int word, int what) {
        there(word >= 0 && word < known.size());
        legal(what >= 0 && what <= 6);
        List<Integer> list = list(word);
        int often = list.stream().mapToInt(d -> count(word, d)).sum();
        return new int[] {list.size(), often, blocks(word, size).size(), top(list, word), rare(word),
            blocks(word, size).stream().mapToInt(Block::bits).sum(), known.get(word).length()}[what];
    }

    int letter(int word, int k) {
        there(word >= 0 && word < known.size());
        String letters = known.get(word);
        return k >= 0 && k < letters.length() ? letters.charAt(k) - 'a' : NONE;
    }

    int block(int word, int block, int what) {
        Block b = blockThere(word, block);
        legal(what >= 0 && what <= 7);
        return new int[] {b.first(), b.last(), b.documents.size(), b.top, b.bits, b.widths[0], b.widths[1],
            b.widths[2]}[what];
    }

    int posting(int word, int k, int what) {
        there(word >= 0 && word < known.size() && k >= 0 && k < list(word).size());
        legal(what >= 0 && what <= 3);
        int document = list(word).get(k);
        return new int[] {document, count(word, document), gain(word, document), k / size}[what];
    }

    int position(int word, int k, int i) {
        there(word >= 0 && word < known.size() && k >= 0 && k < list(word).size());
        List<Integer> positions = positions(word, list(word).get(k));
        return i >= 0 && i < positions.size() ? positions.get(i) : NONE;
    }

    int common(int k) {
        there(k >= 0 && k < known.size());
        List<Integer> order = new ArrayList<>();
        for (int word = 0; word < known.size(); word++) {
            order.add(word);
        }
        order.sort(Comparator.comparing((Integer w) -> -list(w).size()).thenComparing(w -> w));
        return order.get(k);
    }

    int alike(int document, int other) {
        there(texts.containsKey(document) && texts.containsKey(other));
        return both(document, other);
    }

    int scored(int i, int what) {
        legal(what >= 0 && what <= 3);
        if (i < 0 || i >= asked.boosts.size()) {
            return NONE;
        }
        int word = asked.scored().get(i);
        return new int[] {word, asked.boosts.get(word), asked.must.contains(word) ? 1 : 0,
            asked.boosts.get(word) * rare(word) * top(list(word), word)}[what];
    }

    int why(int document) {
        there(texts.containsKey(document));
        return why(document, asked.scored());
    }

    int score(int document) {
        there(texts.containsKey(document));
        return score(document, asked.scored());
    }

    int near(int document) {
        there(texts.containsKey(document));
        return near(document, asked.scored());
    }

    int window(int document, int what) {
        there(texts.containsKey(document));
        legal(what == 0 || what == 1);
        List<Integer> wanted = new ArrayList<>();
        for (int word : asked.scored()) {
            if (count(word, document) > 0) {
                wanted.add(word);
            }
        }
        if (wanted.isEmpty()) {
            return what == 0 ? NONE : 0;
        }
        List<String> text = texts.get(document);
        for (int length = 1; length <= text.size(); length++) {
            for (int begin = 0; begin + length <= text.size(); begin++) {
                List<String> row = text.subList(begin, begin + length);
                if (wanted.stream().allMatch(w -> row.contains(known.get(w)))) {
                    return what == 0 ? begin : length;
                }
            }
        }
        throw new AssertionError("no window");
    }

    int answers() {
        return answers(asked.scored()).size();
    }

    int answer(int k, int what) {
        List<Integer> all = answers(asked.scored());
        there(k >= 0 && k < all.size());
        legal(what == 0 || what == 1);
        return what == 0 ? all.get(k) : score(all.get(k), asked.scored());
    }

    int place(int document) {
        there(texts.containsKey(document));
        return answers(asked.scored()).indexOf(document);
    }

    int early(int k, int what) {
        legal(k >= 1 && k <= 10 && what >= 0 && what <= 8);
        Outcome o = hunt(k, size);
        int blocks = 0;
        for (int word : asked.scored()) {
            blocks += blocks(word, size).size();
        }
        return new int[] {o.best.size(), o.floor, o.turns, o.opened, o.work, o.sought, o.skips, o.looked,
            blocks - o.openings.size()}[what];
    }

    int best(int k, int i) {
        legal(k >= 1 && k <= 10);
        List<Integer> best = hunt(k, size).best;
        return i >= 0 && i < best.size() ? best.get(i) : NONE;
    }

    int opened(int k, int i, int block) {
        there(i >= 0 && i < asked.boosts.size());
        blockThere(asked.scored().get(i), block);
        legal(k >= 1 && k <= 10);
        return hunt(k, size).openings.getOrDefault(List.of(i, block), 0);
    }

    int inside(int word, int block) {
        return blockThere(word, block).documents.stream().filter(d -> why(d, asked.scored()) == 0)
            .mapToInt(d -> score(d, asked.scored())).max().orElse(0);
    }

    int bits(int otherSize) {
        legal(otherSize >= 2 && otherSize <= 8);
        return allBits(otherSize);
    }

    int thrift() {
        return leastBy(this::allBits);
    }

    int swift(int k, int what) {
        legal(k >= 1 && k <= 10 && (what == 0 || what == 1));
        int chosen = leastBy(s -> hunt(k, s).work);
        return what == 0 ? chosen : hunt(k, chosen).work;
    }

    int blockOf(int word, int document) {
        there(word >= 0 && word < known.size() && texts.containsKey(document));
        List<Block> blocks = blocks(word, size);
        for (int b = 0; b < blocks.size(); b++) {
            if (blocks.get(b).first() <= document && blocks.get(b).last() >= document) {
                return b;
            }
        }
        return NONE;
    }

    int full() {
        return (int) texts.keySet().stream().filter(d -> !gone.contains(d) && !asked.boosts.isEmpty()
            && asked.scored().stream().allMatch(w -> count(w, d) > 0)).count();
    }

    int spread(int postings) {
        legal(postings >= 0 && postings <= 64);
        int found = 0;
        for (int word = 0; word < known.size(); word++) {
            found += list(word).size() == postings ? 1 : 0;
        }
        return found;
    }

    int nearest(int document) {
        there(texts.containsKey(document));
        return texts.keySet().stream().filter(d -> d != document)
            .min(Comparator.comparing((Integer d) -> -both(document, d)).thenComparing(d -> d)).orElse(NONE);
    }

    int rarest(int document) {
        there(texts.containsKey(document));
        List<String> text = texts.get(document);
        return text.stream().distinct().map(known::indexOf).min(Comparator.comparing((Integer w) -> -rare(w))
            .thenComparing(w -> -count(w, document)).thenComparing(w -> w)).orElseThrow();
    }

    int points(int document, int i) {
        there(texts.containsKey(document));
        return i >= 0 && i < asked.boosts.size() ? points(document, asked.scored().get(i), 0) : NONE;
    }

    int phrase(int document, int j) {
        there(texts.containsKey(document));
        return j >= 0 && j < asked.phrases.size() ? begins(document, asked.phrases.get(j)) : NONE;
    }

    int depth(int i, int block) {
        there(i >= 0 && i < asked.boosts.size());
        blockThere(asked.scored().get(i), block);
        for (int k = 1; k <= 10; k++) {
            if (hunt(k, size).openings.containsKey(List.of(i, block))) {
                return k;
            }
        }
        return NONE;
    }

    int without(int k, int i) {
        legal(k >= 1 && k <= 10);
        if (i < 0 || i >= asked.boosts.size()) {
            return NONE;
        }
        List<Integer> left = asked.scored();
        left.remove(i);
        List<Integer> first = answers(asked.scored()).stream().limit(k).toList();
        List<Integer> then = answers(left).stream().limit(k).toList();
        return (int) first.stream().filter(d -> !then.contains(d)).count();
    }

    int status(int what) {
        return what == 0 || what == 1 ? refused[what] : NONE;
    }

    // how it is reckoned

    private void there(boolean good) {
        if (!good) {
            refused[0]++;
            throw new NoSuchElementException();
        }
    }

    private void legal(boolean good) {
        if (!good) {
            refused[1]++;
            throw new IllegalArgumentException();
        }
    }

    private String take(int n) {
        String text = tape.substring(0, n);
        tape = "";
        return text;
    }

    /** All FAULTS there are, each by itself; the one furthest left counts. */
    private List<String> readDocument(String text) throws Fault {
        List<Fault> faults = new ArrayList<>();
        List<String> words = new ArrayList<>();
        List<String> fresh = new ArrayList<>();
        java.util.regex.Matcher bad = java.util.regex.Pattern.compile("[^a-z ]", java.util.regex.Pattern.DOTALL)
            .matcher(text);
        if (bad.find()) {
            faults.add(new Fault(1, bad.start()));
        }
        java.util.regex.Matcher runs = java.util.regex.Pattern.compile("[a-z]+").matcher(text);
        while (runs.find()) {
            String word = runs.group();
            if (word.length() > 8) {
                faults.add(new Fault(1, runs.start() + 8));
            } else if (!known.contains(word) && !fresh.contains(word)) {
                fresh.add(word);
                if (known.size() + fresh.size() > 255) {
                    faults.add(new Fault(2, runs.start()));
                }
            }
            words.add(word);
            if (words.size() == 151) {
                faults.add(new Fault(2, runs.start()));
            }
        }
        if (words.isEmpty()) {
            faults.add(new Fault(1, text.length()));
        }
        if (!faults.isEmpty()) {
            throw faults.stream().min(Comparator.comparing(f -> f.place)).orElseThrow();
        }
        return words;
    }

    /** Goes down by PARTS, where the class goes by states. */
    private final class Reader {
        private final String text;
        private int at;
        private final Asked result = new Asked();

        Reader(String text) {
            this.text = text;
        }

        Asked question() throws Fault {
            while (true) {
                blanks();
                if (at == text.length()) {
                    break;
                }
                part();
            }
            if (result.parts == 0) {
                throw new Fault(1, at);
            }
            return result;
        }

        private char now() {
            return at < text.length() ? text.charAt(at) : 0;
        }

        private void blanks() {
            while (now() == ' ') {
                at++;
            }
        }

        private void part() throws Fault {
            if (now() == '~' && result.reach > 0 || !String.valueOf(now()).matches("[a-z+\\-\"~]")) {
                throw new Fault(1, at);
            }
            if (result.parts == 6) {
                throw new Fault(2, at);
            }
            result.parts++;
            switch (now()) {
                case '+' -> {
                    at++;
                    boosted(true);
                }
                case '-' -> {
                    at++;
                    int number = known.indexOf(word());
                    if (number >= 0) {
                        result.not.add(number);
                    }
                }
                case '"' -> {
                    at++;
                    phrase();
                }
                case '~' -> {
                    at++;
                    result.reach = digit();
                }
                default -> boosted(false);
            }
        }

        private void phrase() throws Fault {
            List<Integer> phrase = new ArrayList<>();
            blanks();
            while (now() != '"' || phrase.size() < 2) {
                if (phrase.size() == 4 && Character.isLowerCase(now()) && now() < 128) {
                    throw new Fault(2, at);
                }
                int number = known.indexOf(word());
                phrase.add(number);
                result.must.add(number);
                if (number >= 0) {
                    result.boosts.merge(number, 1, Integer::sum);
                }
                blanks();
            }
            at++;
            result.phrases.add(phrase);
        }

        private void boosted(boolean must) throws Fault {
            int number = known.indexOf(word());
            int boost = 1;
            if (now() == '^') {
                at++;
                boost = digit();
            }
            if (number >= 0) {
                result.boosts.merge(number, boost, Integer::sum);
            }
            if (must) {
                result.must.add(number);
            }
        }

        private int digit() throws Fault {
            if (now() < '1' || now() > '9') {
                throw new Fault(1, at);
            }
            at++;
            return text.charAt(at - 1) - '0';
        }

        private String word() throws Fault {
            int begin = at;
            while (now() >= 'a' && now() <= 'z') {
                if (at - begin == 8) {
                    throw new Fault(1, at);
                }
                at++;
            }
            if (at == begin) {
                throw new Fault(1, at);
            }
            return text.substring(begin, at);
        }
    }

    private static int often(List<String> text, String word) {
        return java.util.Collections.frequency(text, word);
    }

    private int count(int word, int document) {
        return often(texts.get(document), known.get(word));
    }

    private int both(int document, int other) {
        return (int) texts.get(document).stream().distinct().filter(texts.get(other)::contains).count();
    }

    private List<Integer> list(int word) {
        return texts.keySet().stream().filter(d -> texts.get(d).contains(known.get(word))).toList();
    }

    private List<Integer> positions(int word, int document) {
        List<Integer> positions = new ArrayList<>();
        List<String> text = texts.get(document);
        for (int p = 0; p < text.size(); p++) {
            if (text.get(p).equals(known.get(word))) {
                positions.add(p);
            }
        }
        return positions;
    }

    private int gain(int word, int document) {
        int count = count(word, document);
        return 1000 * count / (1 + count + texts.get(document).size() / 4);
    }

    private int top(List<Integer> documents, int word) {
        return documents.stream().mapToInt(d -> gain(word, d)).max().orElse(0);
    }

    private int rare(int word) {
        int held = list(word).size();
        return held == 0 ? 0 : Integer.toBinaryString(texts.size() / held).length();
    }

    private List<Block> blocks(int word, int blockSize) {
        List<Block> blocks = new ArrayList<>();
        List<Integer> list = list(word);
        for (int from = 0; from < list.size(); from += blockSize) {
            List<Integer> documents = list.subList(from, Math.min(list.size(), from + blockSize));
            List<List<Integer>> numbers = List.of(new ArrayList<>(), new ArrayList<>(), new ArrayList<>());
            for (int document : documents) {
                int index = list.indexOf(document);
                numbers.get(0).add(index == 0 ? document + 1 : document - list.get(index - 1));
                List<Integer> positions = positions(word, document);
                numbers.get(1).add(positions.size());
                for (int i = 0; i < positions.size(); i++) {
                    numbers.get(2).add(i == 0 ? positions.get(0) + 1 : positions.get(i) - positions.get(i - 1));
                }
            }
            int[] widths = new int[3];
            int bits = 32;
            for (int kind = 0; kind < 3; kind++) {
                widths[kind] = Integer.toBinaryString(java.util.Collections.max(numbers.get(kind))).length();
                bits += widths[kind] * numbers.get(kind).size();
            }
            blocks.add(new Block(documents, top(documents, word), bits, widths));
        }
        return blocks;
    }

    private Block blockThere(int word, int block) {
        there(word >= 0 && word < known.size() && block >= 0 && block < blocks(word, size).size());
        return blocks(word, size).get(block);
    }

    private int allBits(int blockSize) {
        int bits = 0;
        for (int word = 0; word < known.size(); word++) {
            bits += blocks(word, blockSize).stream().mapToInt(Block::bits).sum();
        }
        return bits;
    }

    private static int leastBy(java.util.function.IntUnaryOperator cost) {
        return Arrays.asList(2, 3, 4, 5, 6, 7, 8).stream()
            .min(Comparator.comparing((Integer s) -> cost.applyAsInt(s)).thenComparing(s -> s)).orElseThrow();
    }

    private int why(int document, List<Integer> scored) {
        if (gone.contains(document)) {
            return 1;
        }
        if (scored.stream().noneMatch(w -> count(w, document) > 0)) {
            return 2;
        }
        if (asked.must.stream().anyMatch(w -> w < 0 || count(w, document) == 0)) {
            return 3;
        }
        if (asked.not.stream().anyMatch(w -> count(w, document) > 0)) {
            return 4;
        }
        return asked.phrases.stream().anyMatch(p -> begins(document, p) == 0) ? 5 : 0;
    }

    private int begins(int document, List<Integer> phrase) {
        List<Integer> text = texts.get(document).stream().map(known::indexOf).toList();
        int begins = 0;
        for (int p = 0; p + phrase.size() <= text.size(); p++) {
            begins += text.subList(p, p + phrase.size()).equals(phrase) ? 1 : 0;
        }
        return begins;
    }

    private int points(int document, int word, int ifMissing) {
        return count(word, document) == 0 ? ifMissing : asked.boosts.get(word) * rare(word) * gain(word, document);
    }

    private int near(int document, List<Integer> scored) {
        int near = 0;
        for (int i = 1; i < scored.size(); i++) {
            int least = Integer.MAX_VALUE;
            for (int p : positions(scored.get(i - 1), document)) {
                for (int q : positions(scored.get(i), document)) {
                    least = Math.min(least, Math.abs(p - q));
                }
            }
            if (asked.reach > 0 && least <= asked.reach) {
                near += 50 * (asked.reach + 1 - least);
            }
        }
        return near;
    }

    private int score(int document, List<Integer> scored) {
        return near(document, scored) + scored.stream().mapToInt(w -> points(document, w, 0)).sum();
    }

    private List<Integer> answers(List<Integer> scored) {
        return texts.keySet().stream().filter(d -> why(d, scored) == 0)
            .sorted(Comparator.comparing((Integer d) -> -score(d, scored)).thenComparing(d -> d)).toList();
    }

    private static final class Walker {
        int order;
        int weight;
        int bound;
        List<Block> blocks;
        int block;
        int place;
        boolean ended;
        int openedLast = NONE;

        void dip(int document) {
            while (!ended && blocks.get(block).last() < document) {
                block++;
                ended = block == blocks.size();
            }
            if (!ended) {
                place = document > blocks.get(block).first() ? document : blocks.get(block).first();
            }
        }

        void seek(int document, Outcome o) {
            if (place < document) {
                dip(document);
            }
            if (ended) {
                return;
            }
            if (openedLast != block) {
                openedLast = block;
                o.opened++;
                o.work += blocks.get(block).documents.size();
                o.openings.merge(List.of(order, block), 1, Integer::sum);
            }
            place = blocks.get(block).documents.stream().filter(d -> d >= document).findFirst().orElseThrow();
        }

        Block reaching(int document) {
            return blocks.subList(block, blocks.size()).stream().filter(b -> b.last() >= document).findFirst()
                .orElse(null);
        }
    }

    private Outcome hunt(int k, int blockSize) {
        Outcome o = new Outcome();
        List<Integer> scored = asked.scored();
        List<Walker> all = new ArrayList<>();
        for (int word : scored) {
            Walker w = new Walker();
            w.order = all.size();
            w.blocks = blocks(word, blockSize);
            w.weight = asked.boosts.get(word) * rare(word);
            w.bound = w.weight * top(list(word), word);
            w.ended = w.blocks.isEmpty();
            w.place = w.ended ? 0 : w.blocks.get(0).first();
            all.add(w);
        }
        int mostNear = scored.isEmpty() ? 0 : 50 * asked.reach * (scored.size() - 1);
        while (!scored.isEmpty()) {
            o.turns++;
            List<Walker> line = all.stream().filter(w -> !w.ended)
                .sorted(Comparator.comparing((Walker w) -> w.place).thenComparing(w -> w.order)).toList();
            int sum = mostNear;
            Walker pivot = null;
            for (Walker w : line) {
                sum += w.bound;
                if (sum > o.floor) {
                    pivot = w;
                    break;
                }
            }
            if (pivot == null) {
                break;
            }
            turn(o, k, line, pivot.place, mostNear);
        }
        return o;
    }

    private void turn(Outcome o, int k, List<Walker> line, int p, int mostNear) {
        List<Walker> here = line.stream().filter(w -> w.place <= p).toList();
        List<Walker> others = line.stream().filter(w -> w.place > p).toList();
        int sum = mostNear;
        int behind = others.isEmpty() ? 1000 : others.get(0).place;
        for (Walker w : here) {
            Block b = w.reaching(p);
            if (b != null) {
                sum += w.weight * b.top;
                behind = Math.min(behind, b.last() + 1);
            }
        }
        if (sum <= o.floor) {
            o.skips++;
            for (Walker w : here) {
                w.dip(behind);
            }
            return;
        }
        if (here.get(0).place < p) {
            o.sought++;
            here.get(0).seek(p, o);
            return;
        }
        for (Walker w : here) {
            o.sought++;
            w.seek(p, o);
        }
        if (here.stream().anyMatch(w -> w.place == p)) {
            o.looked++;
            int score = score(p, asked.scored());
            if (why(p, asked.scored()) == 0 && (score > o.floor || o.best.size() < k)) {
                o.best.add(p);
                o.best.sort(Comparator.comparing((Integer d) -> -score(d, asked.scored())).thenComparing(d -> d));
                if (o.best.size() > k) {
                    o.best.remove(k);
                }
                o.floor = o.best.size() < k ? 0 : score(o.best.get(k - 1), asked.scored());
            }
        }
        for (Walker w : here) {
            if (w.place == p) {
                w.dip(p + 1);
            }
        }
    }
}
