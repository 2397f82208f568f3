import java.util.NoSuchElementException;
import java.util.function.IntSupplier;
import java.util.function.IntUnaryOperator;

/** One object under test, with texts in place of numbers, and the answers that are due. */
final class Tester {
    private static int wrong;

    final EarlyAnswers x = new EarlyAnswers();
    private final String name;

    Tester(String name) {
        this.name = name;
    }

    /** An object with these DOCUMENTS. */
    static Tester with(String name, String... documents) {
        Tester t = new Tester(name);
        for (int i = 0; i < documents.length; i++) {
            t.due("add " + documents[i], t.add(documents[i]), i);
        }
        return t;
    }

    static void end(String what) {
        System.out.println(what + ": " + (wrong == 0 ? "all as due" : wrong + " wrong"));
        System.exit(wrong == 0 ? 0 : 1);
    }

    int feed(String text) {
        int bytes = 0;
        for (int from = 0; from < text.length(); from += 20) {
            int[] n = new int[5];
            for (int i = 0; i < 20; i++) {
                n[i / 4] = n[i / 4] << 8 | (from + i < text.length() ? text.charAt(from + i) : 0);
            }
            bytes = x.feed(n[0], n[1], n[2], n[3], n[4]);
        }
        return bytes;
    }

    int add(String text) {
        feed(text);
        return x.add(text.length());
    }

    int ask(String text) {
        feed(text);
        return x.ask(text.length());
    }

    int find(String text) {
        feed(text);
        return x.find(text.length());
    }

    void due(String call, int got, int want) {
        if (got != want) {
            wrong++;
            System.out.println(name + ": " + call + " answered " + got + ", due is " + want);
        }
    }

    /** What is answered for each of these numbers, behind one another: just inside an edge, at it, just beyond it. */
    void each(String call, String want, IntUnaryOperator one, int... numbers) {
        IntSupplier[] calls = new IntSupplier[numbers.length];
        for (int i = 0; i < numbers.length; i++) {
            int number = numbers[i];
            calls[i] = () -> one.applyAsInt(number);
        }
        row(call, want, calls);
    }

    /** Each of the answers behind one another, as texts. */
    void row(String call, String want, IntSupplier... calls) {
        StringBuilder got = new StringBuilder();
        for (IntSupplier one : calls) {
            got.append(got.length() == 0 ? "" : " ").append(answer(one));
        }
        if (!got.toString().equals(want)) {
            wrong++;
            System.out.println(name + ": " + call + " answered " + got + ", due is " + want);
        }
    }

    void missing(String call, IntSupplier one) {
        refused(call, one, "missing", 0);
    }

    void illegal(String call, IntSupplier one) {
        refused(call, one, "illegal", 1);
    }

    private void refused(String call, IntSupplier one, String want, int kind) {
        int before = x.status(kind);
        int other = x.status(1 - kind);
        String got = answer(one);
        if (!got.equals(want) || x.status(kind) != before + 1 || x.status(1 - kind) != other) {
            wrong++;
            System.out.println(name + ": " + call + " was " + got + ", due is " + want + ", counted once");
        }
    }

    private static String answer(IntSupplier one) {
        try {
            return Integer.toString(one.getAsInt());
        } catch (NoSuchElementException e) {
            return e.getClass() == NoSuchElementException.class ? "missing" : e.toString();
        } catch (IllegalArgumentException e) {
            return e.getClass() == IllegalArgumentException.class ? "illegal" : e.toString();
        } catch (RuntimeException e) {
            return e.toString();
        }
    }
}
