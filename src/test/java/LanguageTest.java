import java.lang.reflect.Constructor;
import java.lang.reflect.Field;
import java.lang.reflect.Method;
import java.lang.reflect.Modifier;
import java.nio.charset.StandardCharsets;
import java.nio.file.Files;
import java.nio.file.Path;
import java.util.TreeSet;
import java.util.regex.Matcher;
import java.util.regex.Pattern;

/** The public face, and those rules of LANGUAGE.md that can be seen from the class and its text. */
public final class LanguageTest {
    private static final Check C = new Check("LanguageTest");
    private static final String FACE = "int member(int,int) int died(int,int) int save(int,int) int draw(int,int) "
        + "int found(int,int,int) int saved(int,int,int) int look(int,int) int ask(int,int,int) int back(int,int,int) "
        + "int askOf(int,int) int answer(int) int pay(int,int) int loanOf(int,int) int dues(int,int) int taken(int,int) "
        + "int alike(int,int) int feed(int,int) int wipe() int rule(int,int) int says(int,int) int why(int,int) "
        + "int run(int) int cost(int) long year(int,int) long got(int,int,int) int voided() int runs(int,int,int) "
        + "int calm(int) int best(int) int judge() int fall(int,int) int duty(int) int counted(int) int suspects() "
        + "int book(int,int,int) int wrong() int count(int) int image() int undo() int lay(int) int set(int,int) "
        + "int tear() int row(int) int copy(int,int,int) int status(int)";
    private static final String[] WORDS_NOT_TO_USE = {"throw", "throws", "try", "catch", "finally", "synchronized",
        "assert", "->", "::", "import java.util.List", "System.out", "System.exit", "Random", "nanoTime", "Thread",
        "String.format", "Exact", "equals(", "hashCode", "toString"};

    public static void main(String[] args) throws Exception {
        face();
        constants();
        classes();
        text();
        C.end();
    }

    private static void face() {
        TreeSet<String> is = new TreeSet<>();
        for (Method m : CommonBond.class.getDeclaredMethods()) {
            C.so(m + " is public or private", Modifier.isPublic(m.getModifiers()) || Modifier.isPrivate(m.getModifiers()));
            if (Modifier.isPublic(m.getModifiers())) {
                StringBuilder types = new StringBuilder();
                for (Class<?> type : m.getParameterTypes()) {
                    types.append(types.length() > 0 ? "," : "").append(type.getName());
                }
                is.add(m.getReturnType().getName() + " " + m.getName() + "(" + types + ")");
            }
        }
        TreeSet<String> due = new TreeSet<>();
        Matcher m = Pattern.compile("\\w+ \\w+\\([\\w,]*\\)").matcher(FACE);
        while (m.find()) {
            due.add(m.group());
        }
        C.due("methods of the document", due.size(), 45);
        C.so("the public methods are those of the document: " + is, is.equals(due));
        C.due("constructors", CommonBond.class.getDeclaredConstructors().length, 1);
        for (Constructor<?> c : CommonBond.class.getDeclaredConstructors()) {
            C.so("a public one without parameters",
                Modifier.isPublic(c.getModifiers()) && c.getParameterCount() == 0);
        }
        C.so("public and final", Modifier.isPublic(CommonBond.class.getModifiers())
            && Modifier.isFinal(CommonBond.class.getModifiers()));
    }

    private static void constants() throws Exception {
        String[] names = {"NONE", "MISSING", "BEYOND", "BELOW", "KIND", "COPY", "NO", "FULL"};
        int seen = 0;
        for (Field f : CommonBond.class.getDeclaredFields()) {
            if (!Modifier.isPrivate(f.getModifiers())) {
                seen++;
            }
        }
        C.due("public constants", seen, names.length);
        for (int i = 0; i < names.length; i++) {
            Field f = CommonBond.class.getField(names[i]);
            C.so("final and static", Modifier.isFinal(f.getModifiers()) && Modifier.isStatic(f.getModifiers()));
            C.due(names[i], f.getInt(null), -1 - i);
        }
    }

    private static void classes() {
        Class<?>[] inside = CommonBond.class.getDeclaredClasses();
        C.so("some twelve classes", inside.length <= 12);
        TreeSet<String> ofFace = new TreeSet<>();
        for (Method m : CommonBond.class.getDeclaredMethods()) {
            if (Modifier.isPublic(m.getModifiers())) {
                ofFace.add(m.getName());
            }
        }
        for (Class<?> c : inside) {
            C.so(c + " is static", Modifier.isStatic(c.getModifiers()) && !Modifier.isPublic(c.getModifiers()));
            int fields = 0;
            for (Field f : c.getDeclaredFields()) {
                boolean isStatic = Modifier.isStatic(f.getModifiers());
                C.so(f + " is final, if static", !isStatic || Modifier.isFinal(f.getModifiers()));
                fields += isStatic ? 0 : 1;
            }
            C.so(c + " has some twenty fields", fields <= 20);
            for (Method m : c.getDeclaredMethods()) {
                C.so(m + " has no name of the face", !ofFace.contains(m.getName()));
                C.so(m + " has seven parameters at most", m.getParameterCount() <= 7);
            }
        }
        for (Method m : CommonBond.class.getDeclaredMethods()) {
            C.so(m + " has no name of the face", Modifier.isPublic(m.getModifiers()) || !ofFace.contains(m.getName()));
        }
    }

    private static void text() throws Exception {
        Path file = Path.of(System.getProperty("project.root", "."), "src", "main", "java", "CommonBond.java");
        String all = Files.readString(file, StandardCharsets.UTF_8);
        String code = all.replaceAll("(?s)/\\*.*?\\*/", "").replaceAll("//[^\n]*", "");
        C.so("no package", !Pattern.compile("^package", Pattern.MULTILINE).matcher(code).find());
        for (String word : WORDS_NOT_TO_USE) {
            String bound = Character.isLetter(word.charAt(0)) ? "\\b" : "";
            String end = Character.isLetter(word.charAt(word.length() - 1)) ? "\\b" : "";
            boolean found = Pattern.compile(bound + Pattern.quote(word) + end).matcher(code).find();
            C.so("not used: " + word, !found);
        }
        C.so("texts aren't joined by +", !Pattern.compile("\"\\s*\\+|\\+\\s*\"").matcher(code).find());
        for (int i = 0; i < all.length(); i++) {
            C.so("signs of the text", all.charAt(i) < 128 && (all.charAt(i) >= ' ' || all.charAt(i) == '\n'));
        }
        methodsAreShort(code);
    }

    private static void methodsAreShort(String code) {
        String[] lines = code.split("\n");
        int start = -1;
        for (int i = 0; i < lines.length; i++) {
            boolean opens = lines[i].matches(" {4}(    )?\\S.*\\) \\{");
            if (opens && !lines[i].contains(" class ")) {
                start = i;
            }
            if (start >= 0 && lines[i].matches(" {4}(    )?}") && lines[i].indexOf('}') == indent(lines[start])) {
                C.so("short: " + lines[start].trim(), i - start < 60);
                start = -1;
            }
        }
    }

    private static int indent(String line) {
        int at = 0;
        while (line.charAt(at) == ' ') {
            at++;
        }
        return at;
    }
}
