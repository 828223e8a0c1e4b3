import java.lang.reflect.Constructor;
import java.lang.reflect.Field;
import java.lang.reflect.Method;
import java.lang.reflect.Modifier;
import java.nio.file.Files;
import java.nio.file.Path;
import java.util.ArrayList;
import java.util.HashSet;
import java.util.List;
import java.util.Set;
import java.util.regex.Matcher;
import java.util.regex.Pattern;

/** The rules of LANGUAGE.md that can be told from the file's text and from its compiled classes. */
public final class LanguageTest {
    private static final Check CHECK = new Check("LanguageTest");
    private static final String[] FACE = {"feed", "sea", "fault", "count", "name", "letter", "has", "debt", "may", "swap", "year",
        "forgive", "undo", "prefers", "glad", "round", "leave", "swaps", "ship", "joined", "inside", "shortest", "worn", "tide",
        "lies", "see", "forget", "sales", "look", "clerks", "century", "weather", "owed", "caravan", "image", "restore"};

    public static void main(String[] args) throws Exception {
        String text = Files.readString(Path.of("src/main/java/BarterIsles.java"));
        String code = text.replaceAll("(?s)/\\*.*?\\*/", " ").replaceAll("//[^\n]*", " ").replaceAll("\"[^\"\n]*\"", "\"\"");
        face();
        classes();
        banned(code);
        library(code);
        lengths(text);
        CHECK.end();
    }

    private static void face() {
        Set<String> open = new HashSet<>();
        for (Method method : BarterIsles.class.getDeclaredMethods()) {
            boolean hidden = Modifier.isPrivate(method.getModifiers());
            if (Modifier.isPublic(method.getModifiers())) {
                open.add(method.getName());
            } else {
                CHECK.yes("rule 1: " + method.getName() + " is private", hidden);
            }
        }
        CHECK.yes("rule 1: the face", open.equals(Set.of(FACE)));
        for (Field field : BarterIsles.class.getDeclaredFields()) {
            boolean none = field.getName().equals("NONE");
            CHECK.yes("rule 1: field " + field.getName(), none == !Modifier.isPrivate(field.getModifiers()));
        }
        Constructor<?>[] made = BarterIsles.class.getDeclaredConstructors();
        CHECK.yes("rule 1: one public constructor", made.length == 1 && Modifier.isPublic(made[0].getModifiers()));
        CHECK.yes("rule 1: final", Modifier.isFinal(BarterIsles.class.getModifiers()));
    }

    private static void classes() {
        List<Class<?>> all = new ArrayList<>(List.of(BarterIsles.class.getDeclaredClasses()));
        CHECK.yes("rule 11: classes", all.size() <= 12);
        all.add(BarterIsles.class);
        Set<String> face = Set.of(FACE);
        for (Class<?> one : all) {
            int fields = 0;
            for (Field field : one.getDeclaredFields()) {
                boolean still = Modifier.isStatic(field.getModifiers());
                fields += still ? 0 : 1;
                CHECK.yes("rule 5: " + field, !still || Modifier.isFinal(field.getModifiers()));
                CHECK.yes("rule 5: kind of " + field, !still || Set.of("int", "long", "boolean", "char", "String").contains(field.getType().getSimpleName()));
            }
            CHECK.yes("rule 11: fields of " + one, fields <= 20);
            for (Method method : one.getDeclaredMethods()) {
                boolean ofFace = one == BarterIsles.class && Modifier.isPublic(method.getModifiers());
                CHECK.yes("rule 1: name of " + method, ofFace || !face.contains(method.getName()));
                CHECK.yes("rule 11: parameters of " + method, method.getParameterCount() <= 7);
            }
        }
    }

    private static void banned(String code) {
        for (String word : new String[] {"->", "::", "\\bfinally\\b", "\\bsynchronized\\b", "\\bassert\\b", "\\btry\\b", "\\bcatch\\b",
            "\\bstatic\\s*\\{", "\\bwhile\\s*\\(true\\)", "for\\s*\\(;;", "\\bObject\\b", "\\bprotected\\b", "\\bdouble\\b", "Exact\\b"}) {
            CHECK.no("banned " + word, Pattern.compile(word).matcher(code).find());
        }
        Matcher made = Pattern.compile("\\bnew\\s+(\\w+)\\s*\\(").matcher(code);
        while (made.find()) {
            String kind = made.group(1);
            boolean own = Pattern.compile("class " + kind + "\\b").matcher(code).find();
            CHECK.yes("made " + kind, own || kind.equals("IllegalArgumentException") || kind.equals("NoSuchElementException"));
        }
    }

    private static void library(String code) {
        Matcher used = Pattern.compile("\\b(Math|Integer|Long|Arrays|System)\\.(\\w+)").matcher(code);
        Set<String> known = Set.of("Math.min", "Math.max", "Math.abs", "Integer.bitCount", "Arrays.fill", "System.arraycopy");
        while (used.find()) {
            CHECK.yes("rule 4: " + used.group(), known.contains(used.group()));
        }
        Matcher brought = Pattern.compile("import ([\\w.]+);").matcher(code);
        while (brought.find()) {
            CHECK.yes("import " + brought.group(1), Set.of("java.util.Arrays", "java.util.NoSuchElementException").contains(brought.group(1)));
        }
    }

    /** A method begins at a line that ends with "{" and ends at the first brace of the same indent. */
    private static void lengths(String text) {
        String[] lines = text.split("\n");
        for (int i = 0; i < lines.length; i++) {
            String line = lines[i];
            boolean begins = line.matches("( {4}| {8})[\\w].*\\) (throws .*)?\\{");
            if (!begins || line.trim().startsWith("if") || line.trim().startsWith("for") || line.trim().startsWith("while")) {
                continue;
            }
            String indent = line.substring(0, line.length() - line.trim().length());
            int end = i;
            while (!lines[end].equals(indent + "}")) {
                end++;
            }
            CHECK.yes("rule 11: length of " + line.trim(), end - i <= 60);
        }
        CHECK.yes("signs 0 to 127", text.chars().allMatch(sign -> sign < 128));
    }
}
