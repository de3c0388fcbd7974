import java.io.IOException;
import java.lang.reflect.Constructor;
import java.lang.reflect.Field;
import java.lang.reflect.Method;
import java.lang.reflect.Modifier;
import java.nio.file.Files;
import java.nio.file.Path;
import java.util.ArrayList;
import java.util.Arrays;
import java.util.List;
import java.util.Set;
import java.util.TreeSet;
import java.util.regex.Matcher;
import java.util.regex.Pattern;

/** The rules of LANGUAGE.md that can be read off the source and the compiled face. Runs in the project's folder. */
public final class RulesTest {
    private static final Path SOURCE = Path.of("src/main/java/SwitchboardHeart.java");
    private static final Path DOCUMENT = Path.of("../shared/DOC.md");

    private RulesTest() {
    }

    public static void main(String[] args) throws IOException {
        String source = Files.readString(SOURCE);
        face();
        nested();
        words(withoutComments(source));
        lengths(source);
        nothingIsMadeByCalls(withoutComments(source));
        Due.end();
    }

    private static String withoutComments(String source) {
        return source.replaceAll("(?s)/\\*.*?\\*/", "").replaceAll("//[^\n]*", "");
    }

    /** Rule 1: the document's face and no other member that is not private. */
    private static void face() throws IOException {
        Set<String> due = new TreeSet<>();
        Matcher told = Pattern.compile("public (int|long) (\\w+)\\(([^)]*)\\);").matcher(Files.readString(DOCUMENT));
        while (told.find()) {
            due.add(told.group(1) + " " + told.group(2) + "(" + told.group(3).replaceAll(" \\w+(, |$)", "$1") + ")");
        }
        Set<String> has = new TreeSet<>();
        for (Method method : SwitchboardHeart.class.getDeclaredMethods()) {
            if (Modifier.isPublic(method.getModifiers())) {
                List<String> types = new ArrayList<>();
                Arrays.stream(method.getParameterTypes()).forEach(type -> types.add(type.getName()));
                has.add(method.getReturnType().getName() + " " + method.getName() + "(" + String.join(", ", types) + ")");
            } else {
                Due.dueTrue(method + " is private", Modifier.isPrivate(method.getModifiers()));
            }
        }
        Due.due("methods that the document tells", due.size(), 41);
        Due.dueTrue("the face " + has + " is " + due, has.equals(due));
        Set<String> constants = new TreeSet<>();
        for (Field field : SwitchboardHeart.class.getDeclaredFields()) {
            if (Modifier.isPublic(field.getModifiers())) {
                constants.add(field.getName());
            } else {
                Due.dueTrue(field + " is private", Modifier.isPrivate(field.getModifiers()));
            }
        }
        Due.dueTrue("constants " + constants, constants.equals(Set.of("BAD", "NOT", "FULL", "STATE", "VOID")));
        Constructor<?>[] made = SwitchboardHeart.class.getDeclaredConstructors();
        Due.due("constructors", made.length, 1);
        Due.dueTrue("a public constructor without arguments", made[0].toString().equals("public SwitchboardHeart()"));
        Due.dueTrue("a final class", Modifier.isFinal(SwitchboardHeart.class.getModifiers()));
        Due.due("BAD", SwitchboardHeart.BAD, -1);
        Due.due("NOT", SwitchboardHeart.NOT, -2);
        Due.due("FULL", SwitchboardHeart.FULL, -3);
        Due.due("STATE", SwitchboardHeart.STATE, -5);
        Due.due("VOID", SwitchboardHeart.VOID, -2000000000);
    }

    /** Rules 1, 2, 3, 5, 11: the classes inside. */
    private static void nested() {
        Set<String> face = new TreeSet<>();
        Arrays.stream(SwitchboardHeart.class.getDeclaredMethods()).filter(m -> Modifier.isPublic(m.getModifiers()))
            .forEach(m -> face.add(m.getName()));
        List<Class<?>> all = new ArrayList<>(List.of(SwitchboardHeart.class.getDeclaredClasses()));
        all.add(SwitchboardHeart.class);
        Due.dueTrue(all.size() + " classes", all.size() <= 12);
        for (Class<?> type : all) {
            boolean inside = type != SwitchboardHeart.class;
            if (inside) {
                Due.dueTrue(type + " is static", Modifier.isStatic(type.getModifiers()));
                Due.dueTrue(type + " is not public", !Modifier.isPublic(type.getModifiers()));
            }
            long fields = Arrays.stream(type.getDeclaredFields()).filter(f -> !Modifier.isStatic(f.getModifiers())).count();
            Due.dueTrue(type + " has " + fields + " fields", fields <= 20);
            for (Field field : type.getDeclaredFields()) {
                Due.dueTrue(field + " is final if it is static",
                    !Modifier.isStatic(field.getModifiers()) || Modifier.isFinal(field.getModifiers()));
            }
            for (Method method : type.getDeclaredMethods()) {
                Due.dueTrue(method + " has another name than one of the face",
                    !face.contains(method.getName()) || Modifier.isPublic(method.getModifiers()));
                Due.dueTrue(method + " takes at most seven", method.getParameterCount() <= 7);
            }
        }
    }

    /** Rules 2, 4, 6, 13: words that may not stand in the source. */
    private static void words(String source) {
        String[] banned = {"\\bthrow\\b", "\\btry\\b", "\\bcatch\\b", "\\bsynchronized\\b", "\\bassert\\b", "->", "::",
            "Exact\\b", "\\bThread\\b", "\\bRandom\\b", "\\bnanoTime\\b", "\\bcurrentTimeMillis\\b", "\\bHashMap\\b",
            "\\bfinally\\b", "\\bvar\\b", "\\bhashCode\\b", "\\btoString\\b", "\\bnative\\b", "\\bvolatile\\b", "^package\\b"};
        for (String word : banned) {
            Due.dueTrue("no " + word, !Pattern.compile(word, Pattern.MULTILINE).matcher(source).find());
        }
        Matcher imports = Pattern.compile("^import ([^;]+);", Pattern.MULTILINE).matcher(source);
        while (imports.find()) {
            Due.dueTrue("import " + imports.group(1), Set.of("java.util.Arrays", "java.util.List", "java.util.ArrayList")
                .contains(imports.group(1)));
        }
        Set<String> library = new TreeSet<>();
        Matcher calls = Pattern.compile("\\b(System|Arrays|Math|Integer|Long)\\.(\\w+)").matcher(source);
        while (calls.find()) {
            library.add(calls.group());
        }
        library.removeAll(Set.of("System.arraycopy", "Arrays.fill", "Math.max", "Math.min", "Integer.bitCount",
            "Long.MIN_VALUE"));
        Due.dueTrue("library calls beside the known ones: " + library, library.isEmpty());
    }

    /** Rule 11: methods stay short. */
    private static void lengths(String source) {
        String[] rows = source.split("\n");
        for (int from = 0; from < rows.length; from++) {
            Matcher head = Pattern.compile("^( {4}| {8})\\w[^=;]*\\) \\{$").matcher(rows[from]);
            if (!head.find()) {
                continue;
            }
            int to = from;
            while (to < rows.length && !rows[to].equals(head.group(1) + "}")) {
                to++;
            }
            Due.dueTrue(rows[from].trim() + " has " + (to - from + 1) + " rows", to - from + 1 <= 60);
        }
    }

    /** Rule 12: all that is made stands in a field's own row or in the one constructor of the face. */
    private static void nothingIsMadeByCalls(String source) {
        int constructor = source.indexOf("public SwitchboardHeart() {");
        int behind = source.indexOf("public int line(");
        Matcher made = Pattern.compile("\\bnew \\w+").matcher(source);
        Pattern field = Pattern.compile("^ +(private )?(final )?[\\w\\[\\]]+ \\w+ = new \\w+.*;$");
        while (made.find()) {
            int row = source.lastIndexOf('\n', made.start()) + 1;
            String text = source.substring(row, source.indexOf('\n', row));
            boolean inConstructor = made.start() > constructor && made.start() < behind;
            Due.dueTrue(text.trim() + " is made once", inConstructor || field.matcher(text).matches());
        }
    }
}
