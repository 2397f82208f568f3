import java.lang.reflect.Constructor;
import java.lang.reflect.Field;
import java.lang.reflect.Method;
import java.lang.reflect.Modifier;
import java.nio.file.Files;
import java.nio.file.Path;
import java.util.Arrays;
import java.util.Collections;
import java.util.List;
import java.util.TreeSet;
import java.util.regex.Matcher;
import java.util.regex.Pattern;
import java.util.stream.Collectors;

/** Promise 43, the public face, and what of LANGUAGE.md can be seen from outside. */
final class FaceTest {
    private static final String FACE = "add1 alike2 answer2 answers0 ask1 at2 best2 bits1 block3 blockOf2 common1 depth2"
        + " document2 early2 fault0 feed5 find1 full0 inside2 letter2 near1 nearest1 opened3 phrase2 place1 points2"
        + " position3 posting3 rarest1 remove1 repack1 score1 scored2 spread1 status1 swift2 thrift0 told1 why1 window2"
        + " without2 word2";

    public static void main(String[] args) throws Exception {
        face();
        faceOfTheDocument();
        names();
        source();
        status();
        Tester.end("face");
    }

    private static void face() {
        Tester t = new Tester("the face");
        Class<EarlyAnswers> c = EarlyAnswers.class;
        t.row("public final", "1", () -> Modifier.isPublic(c.getModifiers()) && Modifier.isFinal(c.getModifiers()) ? 1 : 0);
        TreeSet<String> seen = new TreeSet<>();
        for (Method m : c.getDeclaredMethods()) {
            if (!Modifier.isPrivate(m.getModifiers())) {
                seen.add(m.getName() + m.getParameterCount());
                t.due(m.getName() + " is of int, by the object, public", m.getReturnType() == int.class
                    && !Modifier.isStatic(m.getModifiers()) && Modifier.isPublic(m.getModifiers())
                    && Arrays.stream(m.getParameterTypes()).allMatch(p -> p == int.class) ? 1 : 0, 1);
            }
        }
        String methods = String.join(" ", seen);
        t.row("methods " + methods, "1", () -> methods.equals(FACE) ? 1 : 0);
        String fields = Arrays.stream(c.getDeclaredFields()).filter(f -> !Modifier.isPrivate(f.getModifiers()))
            .map(Field::getName).collect(Collectors.joining(" "));
        t.row("fields " + fields, "1", () -> fields.equals("NONE") ? 1 : 0);
        Constructor<?>[] constructors = c.getDeclaredConstructors();
        t.due("one constructor", constructors.length, 1);
        t.due("without parameters", constructors[0].getParameterCount(), 0);
        for (Class<?> inside : c.getDeclaredClasses()) {
            int m = inside.getModifiers();
            t.due(inside + " is static, not public", Modifier.isStatic(m) && !Modifier.isPublic(m)
                && !Modifier.isProtected(m) ? 1 : 0, 1);
            t.due(inside + " has twenty fields at most", (int) Arrays.stream(inside.getDeclaredFields())
                .filter(f -> !Modifier.isStatic(f.getModifiers())).count() <= 20 ? 1 : 0, 1);
        }
        t.due("twelve classes at most", c.getDeclaredClasses().length < 12 ? 1 : 0, 1);
        t.due("twenty fields at most", (int) Arrays.stream(c.getDeclaredFields())
            .filter(f -> !Modifier.isStatic(f.getModifiers())).count() <= 20 ? 1 : 0, 1);
    }

    /** "The public face", line by line as the document has it, exceptions and names of numbers too. */
    private static void faceOfTheDocument() throws Exception {
        Tester t = new Tester("The public face");
        String document = Files.readString(Path.of("../shared/DOC.md"));
        Matcher block = Pattern.compile("(?s)## The public face\\s+```java\n(.*?)```").matcher(document);
        t.due("it is there", block.find() ? 1 : 0, 1);
        List<String> source = Files.readAllLines(Path.of("src/main/java/EarlyAnswers.java"));
        List<String> due = block.group(1).lines().filter(line -> line.matches(".*[;{]")).toList();
        t.due("lines of the document", due.size(), 46);
        for (String line : due) {
            boolean method = line.endsWith(");") || line.contains(" throws ");
            t.due(line, Collections.frequency(source, method ? line.replace(";", " {") : line), 1);
        }
        long faced = source.stream().filter(line -> line.strip().startsWith("public ")).count();
        t.due("lines of the source", (int) faced, due.size() - 1);
    }

    private static void names() {
        Tester t = new Tester("names");
        TreeSet<String> publicNames = Arrays.stream(EarlyAnswers.class.getMethods())
            .filter(m -> m.getDeclaringClass() == EarlyAnswers.class).map(Method::getName)
            .collect(Collectors.toCollection(TreeSet::new));
        for (Method m : EarlyAnswers.class.getDeclaredMethods()) {
            t.due("private " + m.getName(), Modifier.isPrivate(m.getModifiers())
                && publicNames.contains(m.getName()) ? 1 : 0, 0);
        }
        for (Class<?> inside : EarlyAnswers.class.getDeclaredClasses()) {
            for (Method m : inside.getDeclaredMethods()) {
                t.due(inside + " has " + m.getName(), publicNames.contains(m.getName()) ? 1 : 0, 0);
                t.due(m + " takes too much", m.getParameterCount() > 7 ? 1 : 0, 0);
            }
        }
    }

    private static void source() throws Exception {
        Tester t = new Tester("LANGUAGE.md");
        String text = Files.readString(Path.of("src/main/java/EarlyAnswers.java"));
        t.due("signs 10 and 32 to 126 alone", Pattern.compile("[^\\n -~]").matcher(text).find() ? 1 : 0, 0);
        String code = text.replaceAll("(?s)/\\*.*?\\*/", "").replaceAll("//[^\\n]*", "");
        for (String not : new String[] {"\\btry\\b", "\\bcatch\\b", "\\bfinally\\b", "->", "::", "\\bassert\\b",
            "\\bsynchronized\\b", "\\bpackage\\b", "\\bSystem\\.(?!arraycopy)", "Exact\\(", "\\bvar\\b", "@",
            "while \\(true\\)", "for \\(;;\\)", "\\bdouble\\b", "\\bfloat\\b", "\\bString\\b", "static \\{"}) {
            t.due("has " + not, Pattern.compile(not).matcher(code).find() ? 1 : 0, 0);
        }
        t.due("imports", (int) Pattern.compile("\\bimport\\b").matcher(code).results().count(), 1);
    }

    private static void status() {
        Tester t = Tester.with("43 status", "a b");
        t.row("none yet", "0 0", () -> t.x.status(0), () -> t.x.status(1));
        t.missing("remove", () -> t.x.remove(7));
        t.missing("word", () -> t.x.word(7, 99));
        t.illegal("told", () -> t.x.told(99));
        t.illegal("add", () -> t.x.add(1));
        t.illegal("early", () -> t.x.early(0, 0));
        t.row("counted", "2 3", () -> t.x.status(0), () -> t.x.status(1));
        t.add("!");
        t.ask("!");
        t.find("!");
        t.x.at(0, 99);
        for (int i = 0; i < 16; i++) {
            t.x.feed(0, 0, 0, 0, 0);
        }
        t.row("NONE and faults are not refused", "2 3", () -> t.x.status(0), () -> t.x.status(1));
        t.row("others", "-1 -1 -1 -1", () -> t.x.status(2), () -> t.x.status(-1),
            () -> t.x.status(Integer.MAX_VALUE), () -> t.x.status(Integer.MIN_VALUE));
    }
}
