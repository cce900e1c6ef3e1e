import java.lang.reflect.Constructor;
import java.lang.reflect.Field;
import java.lang.reflect.Method;
import java.lang.reflect.Modifier;
import java.nio.file.Files;
import java.nio.file.Path;
import java.util.ArrayList;
import java.util.List;
import java.util.Set;
import java.util.TreeSet;
import java.util.regex.Matcher;
import java.util.regex.Pattern;

/** The rules of LANGUAGE.md that can be seen in the source's text or in the compiled classes. */
public final class LanguageTest {
    private static final String[] FACE = {
        "int letter(int,int)", "int stamp(int,int,int)", "int note(int,int,int,int,int)",
        "int force(int,boolean)", "int unnote()", "int unletter()", "int ofLetter(int,int)",
        "int ofNote(int,int)", "int agree()", "int day(int,int)", "int can(int,int)", "int left(int)",
        "int gap(int,int)", "int ahead(int,int)", "int orders()", "int order(int)", "int knot(int)",
        "int core()", "int worst(int)", "int best()", "int tie(int,int)", "int untie(int,int)",
        "int spread(int)", "int lies(int,int)", "int many(int)"};
    private static final String[] CONSTANTS = {"UNKNOWN", "OUTSIDE", "STATE", "FULL", "NONE"};
    private static final String[] FORBIDDEN = {"throw", "throws", "try", "catch", "finally",
        "synchronized", "assert", "import", "package", "native", "volatile", "System.out", "Random",
        "Exact\\(", "->", "::", "var"};
    /** Of the library that the rules leave, what the class has use for. */
    private static final Set<String> LIBRARY = Set.of("Integer.bitCount", "Math.max", "Math.min");

    private static int wrong = 0;

    public static void main(String[] args) throws Exception {
        String source = withoutComments(Files.readString(Path.of("src/main/java/LetterDays.java")));
        words(source);
        methodLengths(source);
        face();
        for (Class<?> inner : LetterDays.class.getDeclaredClasses()) {
            inside(inner);
        }
        sizes(LetterDays.class);
        if (LetterDays.class.getDeclaredClasses().length > 12) {
            fault("more than twelve classes");
        }
        System.out.println(wrong == 0 ? "the language is kept" : wrong + " faults");
        if (wrong != 0) {
            System.exit(1);
        }
    }

    private static void fault(String what) {
        wrong++;
        System.out.println(what);
    }

    private static String withoutComments(String text) {
        return text.replaceAll("(?s)/\\*.*?\\*/", "").replaceAll("//[^\n]*", "");
    }

    private static void words(String source) {
        for (String word : FORBIDDEN) {
            String bound = Character.isLetter(word.charAt(0)) ? "\\b" : "";
            String end = Character.isLetter(word.charAt(word.length() - 1)) ? "\\b" : "";
            if (Pattern.compile((word.startsWith("Exact") ? "" : bound) + word + end).matcher(source).find()) {
                fault("the source holds " + word);
            }
        }
        if (!source.matches("\\p{ASCII}*")) {
            fault("a sign beyond 127");
        }
        Matcher made = Pattern.compile("new (\\w+)").matcher(source);
        Set<String> own = new TreeSet<>(Set.of("int"));
        for (Class<?> inner : LetterDays.class.getDeclaredClasses()) {
            own.add(inner.getSimpleName());
        }
        while (made.find()) {
            if (!own.contains(made.group(1))) {
                fault("makes a " + made.group(1));
            }
        }
        Matcher used = Pattern.compile("\\b[A-Z]\\w*\\.\\w+").matcher(source);
        while (used.find()) {
            if (!LIBRARY.contains(used.group())) {
                fault("uses " + used.group());
            }
        }
    }

    private static void methodLengths(String source) {
        String[] lines = source.split("\n");
        Pattern head = Pattern.compile("^(    |        )[^ }].*\\(.*\\) \\{$");
        for (int k = 0; k < lines.length; k++) {
            Matcher found = head.matcher(lines[k]);
            if (found.matches()) {
                int end = k;
                while (end < lines.length && !lines[end].equals(found.group(1) + "}")) {
                    end++;
                }
                if (end - k > 60) {
                    fault("a long method: " + lines[k].trim());
                }
            }
        }
    }

    private static void face() {
        int modifiers = LetterDays.class.getModifiers();
        if (!Modifier.isPublic(modifiers) || !Modifier.isFinal(modifiers)) {
            fault("the class is not public and final");
        }
        Set<String> shown = new TreeSet<>();
        for (Method method : LetterDays.class.getDeclaredMethods()) {
            if (!Modifier.isPrivate(method.getModifiers())) {
                shown.add(text(method));
            }
        }
        Set<String> due = new TreeSet<>(List.of(FACE));
        if (!shown.equals(due)) {
            fault("the face is " + shown);
        }
        Set<String> constants = new TreeSet<>();
        for (Field field : LetterDays.class.getDeclaredFields()) {
            if (!Modifier.isPrivate(field.getModifiers())) {
                constants.add(field.getName());
            }
        }
        if (!constants.equals(new TreeSet<>(List.of(CONSTANTS)))) {
            fault("the constants are " + constants);
        }
        Constructor<?>[] made = LetterDays.class.getDeclaredConstructors();
        if (made.length != 1 || made[0].getParameterCount() != 0 || !Modifier.isPublic(made[0].getModifiers())) {
            fault("the constructor");
        }
        privateNames(LetterDays.class);
    }

    private static String text(Method method) {
        List<String> types = new ArrayList<>();
        for (Class<?> type : method.getParameterTypes()) {
            types.add(type.getName());
        }
        return (Modifier.isPublic(method.getModifiers()) ? "" : "hidden ")
            + method.getReturnType() + " " + method.getName() + "(" + String.join(",", types) + ")";
    }

    private static void privateNames(Class<?> owner) {
        for (Method method : owner.getDeclaredMethods()) {
            boolean own = owner == LetterDays.class && Modifier.isPublic(method.getModifiers());
            for (String shown : FACE) {
                if (!own && shown.startsWith("int " + method.getName() + "(")) {
                    fault(owner.getSimpleName() + " has a method by the public name " + method.getName());
                }
            }
            if (method.getParameterCount() > 7) {
                fault("more than seven parameters: " + method.getName());
            }
        }
    }

    private static void inside(Class<?> inner) {
        if (!Modifier.isStatic(inner.getModifiers()) || inner.getDeclaredClasses().length != 0) {
            fault("a class inside that is not static, or has classes inside: " + inner.getSimpleName());
        }
        privateNames(inner);
        sizes(inner);
    }

    private static void sizes(Class<?> owner) {
        int fields = 0;
        for (Field field : owner.getDeclaredFields()) {
            boolean isStatic = Modifier.isStatic(field.getModifiers());
            fields += isStatic ? 0 : 1;
            if (isStatic && !(Modifier.isFinal(field.getModifiers()) && field.getType().isPrimitive())) {
                fault("static state: " + field.getName());
            }
        }
        if (fields > 20) {
            fault("more than twenty fields: " + owner.getSimpleName());
        }
    }
}
