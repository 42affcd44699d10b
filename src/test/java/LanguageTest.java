import java.lang.reflect.Constructor;
import java.lang.reflect.Field;
import java.lang.reflect.Method;
import java.lang.reflect.Modifier;
import java.nio.file.Files;
import java.nio.file.Path;
import java.util.ArrayList;
import java.util.Arrays;
import java.util.List;
import java.util.Set;
import java.util.TreeSet;
import java.util.regex.Matcher;
import java.util.regex.Pattern;

/** What of LANGUAGE.md, and of the public face, can be seen from the source (its path is the argument) and the classes. */
final class LanguageTest {
    private static final String FACE = """
            int state(int)
            int person(int, int)
            int alias(int, int, int)
            boolean set(int, int, int)
            boolean act(int, int, int)
            int hours(int)
            int feed(int, int, int, int, int)
            boolean end(int)
            int text(int)
            int fault(int)
            int of(int, int)
            int who(int, int)
            int street(int, int)
            int book(int, int)
            int goes(int, int)
            int keeps(int)
            int sighted(int, int)
            int persons(int, int)
            int pair(int, int, boolean)
            int names(int)
            int says(int, int, boolean)
            int speakers(int)
            int vote(int)
            int swings(int, int)
            int least(int)
            int birthdays(int, int, int)
            int letter(int, int)
            int notes(int)
            int boot(int)
            int bed(int, int)
            int beds(int)
            int box(int)
            int named(int)
            int net(int, int)
            int hoop(int, int, int)
            int loan(int, int, int)
            int settled(int)
            int game(int, int, int)
            boolean undo()
            boolean image(boolean)
            int look(int)
            """;

    private LanguageTest() {
    }

    public static void main(String[] args) throws Exception {
        face();
        classes();
        source(Files.readString(Path.of(args[0])));
        Due.finish("LanguageTest");
    }

    private static void holds(String rule, boolean so) {
        Due.is(rule, so, true);
    }

    private static void face() {
        Set<String> due = new TreeSet<>(FACE.lines().toList());
        Set<String> is = new TreeSet<>();
        Set<String> names = new TreeSet<>();
        for (Method m : AliasHouse.class.getDeclaredMethods()) {
            if (!Modifier.isPrivate(m.getModifiers())) {
                List<String> types = Arrays.stream(m.getParameterTypes()).map(Class::getName).toList();
                is.add(m.getReturnType() + " " + m.getName() + "(" + String.join(", ", types) + ")");
                names.add(m.getName());
                holds("public, not static: " + m, m.getModifiers() == Modifier.PUBLIC);
            }
        }
        System.out.print(is.equals(due) ? "" : "the face is " + is + "\n");
        holds("the face", is.equals(due));
        for (Field f : AliasHouse.class.getDeclaredFields()) {
            holds("no other open field: " + f, Modifier.isPrivate(f.getModifiers()) || f.getName().equals("NONE"));
        }
        Constructor<?>[] constructors = AliasHouse.class.getDeclaredConstructors();
        holds("one constructor", constructors.length == 1 && constructors[0].getParameterCount() == 0);
        holds("public", constructors[0].getModifiers() == Modifier.PUBLIC);
        holds("class", AliasHouse.class.getModifiers() == (Modifier.PUBLIC | Modifier.FINAL));
        List<Class<?>> all = new ArrayList<>(List.of(AliasHouse.class.getDeclaredClasses()));
        all.add(AliasHouse.class);
        for (Class<?> c : all) {
            for (Method m : c.getDeclaredMethods()) {
                boolean own = c != AliasHouse.class || Modifier.isPrivate(m.getModifiers());
                holds("a method inside bears no name of the face: " + m, !own || !names.contains(m.getName()));
            }
        }
    }

    private static void classes() {
        Class<?>[] inside = AliasHouse.class.getDeclaredClasses();
        holds("at most twelve classes", inside.length + 1 <= 12);
        for (Class<?> c : inside) {
            holds("static and not public: " + c, Modifier.isStatic(c.getModifiers()) && !Modifier.isPublic(c.getModifiers()));
            holds("no class inside: " + c, c.getDeclaredClasses().length == 0);
            long fields = Arrays.stream(c.getDeclaredFields()).filter(f -> !Modifier.isStatic(f.getModifiers())).count();
            holds("twenty fields: " + c, fields <= 20);
            for (Field f : c.getDeclaredFields()) {
                boolean constant = Modifier.isFinal(f.getModifiers()) && (f.getType().isPrimitive() || f.getType() == String.class);
                holds("static fields are constants: " + f, !Modifier.isStatic(f.getModifiers()) || constant);
            }
            for (Method m : c.getDeclaredMethods()) {
                holds("seven parameters: " + m, m.getParameterCount() <= 7);
                holds("no method of Object: " + m, !Set.of("equals", "hashCode", "toString").contains(m.getName()));
            }
        }
    }

    private static void source(String source) {
        String code = source.replaceAll("(?s)/\\*.*?\\*/", "").replaceAll("//[^\n]*", "").replaceAll("\"[^\"]*\"", "\"\"");
        Matcher word = Pattern.compile("\\b(throw|throws|try|catch|finally|synchronized|assert|native|volatile|transient|System\\.(?!arraycopy)\\w+"
                + "|Thread|Random|Object|Exception|Error|goto|package|record|yield|var)\\b|->|::|@").matcher(code);
        while (word.find()) {
            holds("not in the language: " + word.group(), false);
        }
        Matcher imports = Pattern.compile("import ([^;]*);").matcher(code);
        while (imports.find()) {
            Due.is("import " + imports.group(1), imports.group(1).equals("java.util.Arrays"), true);
        }
        Matcher text = Pattern.compile("\"\"\\s*\\+|\\+\\s*\"\"").matcher(code);
        holds("no texts joined by +", !text.find());
        holds("signs 1 to 127", source.chars().allMatch(c -> c < 128));
        methods(code);
    }

    /** A method's body goes from its header to the closing brace that stands as far in as the header. */
    private static void methods(String code) {
        int start = -1;
        String[] lines = code.split("\n");
        for (int i = 0; i < lines.length; i++) {
            boolean opens = lines[i].matches("(    |        )\\S.*\\) \\{") && !lines[i].contains(" class ");
            if (opens && start < 0) {
                start = i;
            }
            if (start >= 0 && lines[i].equals(indent(lines[start]) + "}")) {
                method(lines[start].trim(), String.join("\n", Arrays.copyOfRange(lines, start + 1, i)), i - start + 1);
                start = -1;
            }
        }
    }

    private static String indent(String line) {
        return line.replaceAll("\\S.*", "");
    }

    private static void method(String header, String body, int length) {
        holds("at most sixty lines: " + header, length <= 60);
        String name = header.replaceAll("\\(.*", "").replaceAll(".* ", "");
        boolean constructor = Character.isUpperCase(name.charAt(0));
        holds("nothing is made behind the constructors: " + header, constructor || !Pattern.compile("\\bnew\\b").matcher(body).find());
        boolean callsItself = Pattern.compile("(?<![.\\w])" + name + "\\(").matcher(body).find() && !overloads(name);
        holds("a method that calls itself is private and static: " + header, !callsItself || header.startsWith("private static "));
    }

    /** Two methods of one name in a class: which of them is called can't be seen from the name. */
    private static boolean overloads(String name) {
        for (Class<?> c : AliasHouse.class.getDeclaredClasses()) {
            if (Arrays.stream(c.getDeclaredMethods()).filter(m -> m.getName().equals(name)).count() > 1) {
                return true;
            }
        }
        return false;
    }
}
