import java.lang.reflect.InvocationTargetException;
import java.lang.reflect.Method;
import java.util.Arrays;

/** All limits at once: 255 WORDS, 64 DOCUMENTS, one of 150 WORDS, 24 SCORED WORDS; compared with the model. */
final class LimitsTest {
    private static final int[] CHOSEN = {0, 1, 2, 3, 7, 8, 9, 10, 23, 24, 31, 32, 63, 64, 149, 150, 254, 255, -1,
        Integer.MAX_VALUE, Integer.MIN_VALUE};

    private final EarlyAnswers x = new EarlyAnswers();
    private final Model y = new Model();
    private final Tester t = new Tester("limits");
    private int calls;

    public static void main(String[] args) throws Exception {
        for (Method method : EarlyAnswers.class.getMethods()) {
            String name = method.getName();
            if (method.getDeclaringClass() == EarlyAnswers.class && !"feed add ask find remove repack".contains(name)) {
                sweep(method);
            }
        }
        Tester.end("limits");
    }

    private static void sweep(Method method) throws Exception {
        int width = method.getParameterCount();
        int all = (int) Math.pow(CHOSEN.length, width);
        // of three numbers not every row of them: by a step that shares no factor with how many there are
        int step = width == 3 ? 37 : 1;
        LimitsTest run = new LimitsTest();
        run.fill();
        for (int row = 0; row < all; row += step) {
            int[] arguments = new int[width];
            for (int i = 0, rest = row; i < width; i++, rest /= CHOSEN.length) {
                arguments[i] = CHOSEN[rest % CHOSEN.length];
            }
            if (run.calls >= 510) {
                run = new LimitsTest();
                run.fill();
            }
            run.call(method.getName(), arguments);
        }
    }

    private void fill() throws Exception {
        tell("add", "a b c d e f g h i j k l m n o p q r s t u v w x " + "a ".repeat(126));
        int word = 0;
        for (int document = 1; document < 64; document++) {
            StringBuilder text = new StringBuilder(" a b c d e f g h i j k l m n o p q r s t u v w x "
                .substring(0, document % 3 == 0 ? 49 : document % 7 * 5));
            for (int i = 0; i < 4 && word < 231; i++, word++) {
                text.append(" y").append((char) ('a' + word / 26)).append((char) ('a' + word % 26));
            }
            tell("add", text.append(" a").toString());
        }
        t.due("known", x.told(2), 255);
        t.due("numbers", x.told(9), 64);
        tell("ask", "\"a b c d\"\"e f g h\"\"i j k l\"\"m n o p\"\"q r s t\"\"u v w x\"");
        t.due("scored", x.told(7), 24);
        call("repack", 2);
    }

    private void tell(String name, String text) throws Exception {
        for (int from = 0; from < text.length(); from += 20) {
            int[] n = new int[5];
            for (int i = 0; i < 20; i++) {
                n[i / 4] = n[i / 4] << 8 | (from + i < text.length() ? text.charAt(from + i) : 0);
            }
            t.due("feed", x.feed(n[0], n[1], n[2], n[3], n[4]), y.feed(n));
            calls++;
        }
        call(name, text.length());
    }

    private void call(String name, int... arguments) throws Exception {
        Class<?>[] types = new Class<?>[arguments.length];
        Arrays.fill(types, int.class);
        Object got = answer(EarlyAnswers.class.getDeclaredMethod(name, types), x, arguments);
        Object due = answer(Model.class.getDeclaredMethod(name, types), y, arguments);
        calls++;
        t.due(name + Arrays.toString(arguments) + " answered " + got + ", due is " + due + ": alike",
            got.equals(due) ? 1 : 0, 1);
    }

    private static Object answer(Method method, Object object, int[] arguments) throws Exception {
        try {
            return method.invoke(object, Arrays.stream(arguments).boxed().toArray());
        } catch (InvocationTargetException e) {
            return e.getCause().getClass().getName();
        }
    }
}
