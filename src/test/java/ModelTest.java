import java.lang.reflect.InvocationTargetException;
import java.lang.reflect.Method;
import java.util.ArrayList;
import java.util.Arrays;
import java.util.List;
import java.util.Random;
import java.util.TreeMap;

/** Runs of calls by chance (always the same ones), each answer compared with the model's. */
final class ModelTest {
    private static final String[] ASKED = {"fault", "told", "document", "at", "word", "letter", "block", "posting",
        "position", "common", "alike", "scored", "why", "score", "near", "window", "answers", "answer", "place",
        "early", "early", "early", "early", "best", "opened", "inside", "bits", "thrift", "swift", "blockOf", "full",
        "spread", "nearest", "rarest", "points", "phrase", "depth", "without", "without", "status"};

    private static final TreeMap<String, Method[]> METHODS = new TreeMap<>();
    private static final TreeMap<String, Integer> ANSWERED = new TreeMap<>();
    private static int wrong;

    private final Random random;
    private final EarlyAnswers x = new EarlyAnswers();
    private final Model y = new Model();
    private final List<String> calls = new ArrayList<>();
    private final String[] vocabulary;
    private boolean good = true;

    private ModelTest(long seed) {
        random = new Random(seed);
        vocabulary = new String[2 + random.nextInt(seed % 7 == 0 ? 60 : 9)];
        for (int i = 0; i < vocabulary.length; i++) {
            StringBuilder word = new StringBuilder();
            int letters = random.nextInt(6) == 0 ? 1 + random.nextInt(8) : 1 + random.nextInt(2);
            for (int k = 0; k < letters; k++) {
                word.append((char) ('a' + random.nextInt(random.nextInt(5) == 0 ? 26 : 5)));
            }
            vocabulary[i] = word.toString();
        }
    }

    public static void main(String[] args) throws Exception {
        for (Method method : EarlyAnswers.class.getMethods()) {
            if (method.getDeclaringClass() == EarlyAnswers.class && !method.getName().equals("feed")) {
                Method other = Model.class.getDeclaredMethod(method.getName(), method.getParameterTypes());
                other.setAccessible(true);
                METHODS.put(method.getName(), new Method[] {method, other});
            }
        }
        int runs = args.length > 0 ? Integer.parseInt(args[0]) : 400;
        for (int seed = 0; seed < runs && wrong < 5; seed++) {
            new ModelTest(seed).run();
        }
        for (String name : METHODS.keySet()) {
            if (ANSWERED.getOrDefault(name, 0) == 0) {
                wrong++;
                System.out.println("no run got an answer of " + name);
            }
        }
        System.out.println("model: " + runs + " runs, " + ANSWERED.values().stream().mapToInt(n -> n).sum()
            + " answers" + (wrong == 0 ? ", all as due" : ", wrong"));
        System.exit(wrong == 0 ? 0 : 1);
    }

    private void run() throws Exception {
        int documents = random.nextInt(random.nextBoolean() ? 64 : 20);
        for (int i = 0; i < documents && calls.size() < 350 && good; i++) {
            tell("add", documentText());
        }
        if (random.nextBoolean()) {
            call("repack", 2 + random.nextInt(7));
        }
        tell("ask", questionText());
        while (calls.size() < 512 && good) {
            step(random.nextInt(60));
        }
    }

    private void step(int choice) throws Exception {
        switch (choice) {
            case 0 -> tell("add", documentText());
            case 1, 2, 3 -> tell("ask", questionText());
            case 4 -> tell("find", random.nextInt(5) == 0 ? documentText() : oneWord());
            case 5 -> call("remove", number(70));
            case 6 -> call("repack", random.nextInt(3) == 0 ? number(10) : 2 + random.nextInt(7));
            case 7 -> feed(spoiled(documentText()));
            default -> query(ASKED[random.nextInt(ASKED.length)]);
        }
    }

    private void query(String name) throws Exception {
        int[] arguments = new int[METHODS.get(name)[0].getParameterCount()];
        for (int i = 0; i < arguments.length; i++) {
            arguments[i] = random.nextInt(40) == 0 ? number(70) : random.nextInt(random.nextInt(4) == 0 ? 40 : 9);
        }
        call(name, arguments);
    }

    private int number(int most) {
        return switch (random.nextInt(12)) {
            case 0 -> -1;
            case 1 -> Integer.MIN_VALUE;
            case 2 -> Integer.MAX_VALUE;
            case 3 -> most;
            default -> random.nextInt(most);
        };
    }

    private String oneWord() {
        return vocabulary[Math.min(random.nextInt(vocabulary.length), random.nextInt(vocabulary.length))];
    }

    private String documentText() {
        StringBuilder text = new StringBuilder();
        int words = random.nextInt(8) == 0 ? 25 : 1 + random.nextInt(9);
        for (int i = 0; i < words; i++) {
            text.append(random.nextInt(9) == 0 ? "  " : i == 0 ? "" : " ").append(oneWord());
        }
        return spoiled(text.toString());
    }

    private String questionText() {
        StringBuilder text = new StringBuilder();
        int parts = 1 + random.nextInt(random.nextInt(4) == 0 ? 7 : 3);
        for (int i = 0; i < parts; i++) {
            text.append(i == 0 || random.nextInt(12) == 0 ? "" : " ").append(part(random.nextInt(14)));
        }
        if (random.nextInt(3) == 0) {
            text.append(" ~").append(1 + random.nextInt(9));
        }
        return spoiled(text.toString());
    }

    private String part(int kind) {
        switch (kind) {
            case 0:
                return "-" + oneWord();
            case 1, 2:
                return "+" + oneWord() + (random.nextBoolean() ? "" : "^" + (1 + random.nextInt(9)));
            case 3:
                StringBuilder phrase = new StringBuilder("\"").append(oneWord());
                for (int more = 1 + (random.nextInt(3) == 0 ? random.nextInt(4) : 0); more > 0; more--) {
                    phrase.append(random.nextInt(8) == 0 ? "  " : " ").append(oneWord());
                }
                return phrase.append(random.nextInt(8) == 0 ? " \"" : "\"").toString();
            case 4:
                return "zzz";
            case 5, 6:
                return oneWord() + "^" + (1 + random.nextInt(9));
            default:
                return oneWord();
        }
    }

    /** Now and then with a sign that is another one, one more or one fewer. */
    private String spoiled(String text) {
        if (random.nextInt(12) != 0 || text.isEmpty()) {
            return text;
        }
        int at = random.nextInt(text.length());
        String signs = "a ^+-\"~019{`@\u00e9\u0000\u00ff!";
        String sign = signs.charAt(random.nextInt(signs.length())) + "";
        return text.substring(0, at) + (random.nextInt(3) == 0 ? "" : sign)
            + text.substring(random.nextBoolean() ? at : at + 1);
    }

    private void feed(String text) {
        for (int from = 0; from < text.length() && good; from += 20) {
            int[] numbers = new int[5];
            for (int i = 0; i < 20; i++) {
                int sign = from + i < text.length() ? text.charAt(from + i) : 0;
                numbers[i / 4] = numbers[i / 4] << 8 | sign;
            }
            int got = x.feed(numbers[0], numbers[1], numbers[2], numbers[3], numbers[4]);
            compare("feed" + Arrays.toString(numbers), got, y.feed(numbers));
        }
    }

    private void tell(String name, String text) throws Exception {
        feed(text);
        int n = random.nextInt(25) == 0 ? number(310) : text.length();
        call(name, n);
        if (random.nextInt(6) == 0) {
            call("fault");
        }
    }

    private void call(String name, int... arguments) throws Exception {
        if (!good) {
            return;
        }
        Object[] boxed = Arrays.stream(arguments).boxed().toArray();
        Object got = answer(METHODS.get(name)[0], x, boxed);
        Object due = answer(METHODS.get(name)[1], y, boxed);
        if (due instanceof Integer) {
            ANSWERED.merge(name, 1, Integer::sum);
        }
        compare(name + Arrays.toString(arguments), got, due);
    }

    private static Object answer(Method method, Object object, Object[] arguments) throws Exception {
        try {
            return method.invoke(object, arguments);
        } catch (InvocationTargetException e) {
            return e.getCause().getClass().getName();
        }
    }

    private void compare(String call, Object got, Object due) {
        calls.add(call + " = " + due);
        if (!got.equals(due)) {
            wrong++;
            good = false;
            System.out.println(String.join("\n", calls.subList(Math.max(0, calls.size() - 40), calls.size())));
            System.out.println("the last one answered " + got + ", due is " + due);
        }
    }
}
