import java.io.IOException;
import java.lang.reflect.Constructor;
import java.lang.reflect.Field;
import java.lang.reflect.Method;
import java.lang.reflect.Modifier;
import java.nio.file.Files;
import java.nio.file.Path;
import java.util.Arrays;
import java.util.HashSet;
import java.util.List;
import java.util.Set;
import java.util.TreeSet;
import java.util.regex.Pattern;

/** The public face of the document, and what can be seen from outside of the rules of LANGUAGE.md. */
public final class FaceTest {
    private static final Checks CHECKS = new Checks("FaceTest");
    private static final Path SOURCE = Path.of("src/main/java/ClickTrack.java");
    private static final String I = " IndexOutOfBoundsException";
    private static final String A = " IllegalArgumentException";
    private static final String S = " IllegalStateException";

    private static final String[] FACE = {
        "int append(int)" + A + S, "int clearText()", "int errorPosition()", "int load()" + S,
        "int about(int)" + A, "int bar(int,int)" + I + A, "int stretch(int,int)" + I + A,
        "int section(int,int)" + I + A, "int places(int)" + I, "int place(int,int,int)" + I + A,
        "long begins(int,int)" + I + A, "int find(int,int,int)" + I + A, "int at(int,long)" + I + A,
        "long nextClick(int,long)" + I + A, "int clicks(int,long,long)" + I + A, "int missed(int)" + I,
        "int together(int,int)" + I, "int part(int,int)" + I, "long meet(int,int)" + I, "int addBar(int)" + A + S,
        "int setTempo(int,int)" + I + A, "int setStretch(int,int,int)" + I + A,
        "boolean leaveOut(int,int,boolean)" + I + A, "int addSection(int,int,int)" + I + A + S,
        "int removeSection(int)" + I, "int skip(int,int,boolean)" + I, "int undo()" + S,
        "int percentage(int,long)" + I + A, "int longest(int)" + I, "int runScript(int,long)" + A,
        "int simulate(long,int)" + A, "int save(int)" + I, "int restore(int)" + I + S,
    };

    public static void main(String[] args) throws IOException {
        face();
        members();
        classesInside();
        source();
        CHECKS.end();
    }

    private static String told(Method method) {
        StringBuilder out = new StringBuilder(method.getReturnType().getSimpleName());
        out.append(' ').append(method.getName()).append('(');
        out.append(String.join(",", Arrays.stream(method.getParameterTypes()).map(Class::getSimpleName).toList()));
        out.append(')');
        for (Class<?> thrown : method.getExceptionTypes()) {
            out.append(' ').append(thrown.getSimpleName());
        }
        return out.toString();
    }

    private static void face() {
        Set<String> found = new TreeSet<>();
        Set<String> publicNames = new HashSet<>();
        for (Method method : ClickTrack.class.getDeclaredMethods()) {
            if (!Modifier.isPrivate(method.getModifiers())) {
                CHECKS.same("modifiers of " + method.getName(), "public", Modifier.toString(method.getModifiers()));
                found.add(told(method));
                publicNames.add(method.getName());
            }
        }
        CHECKS.same("the methods", new TreeSet<>(List.of(FACE)), found);
        for (Class<?> any : everyClass()) {
            for (Method method : any.getDeclaredMethods()) {
                boolean isFace = any == ClickTrack.class && Modifier.isPublic(method.getModifiers());
                CHECKS.same("a second " + method.getName(), isFace, publicNames.contains(method.getName()));
            }
        }
    }

    private static void members() {
        CHECKS.same("the class", "public final", Modifier.toString(ClickTrack.class.getModifiers()));
        Constructor<?>[] constructors = ClickTrack.class.getDeclaredConstructors();
        CHECKS.same("constructors", 1, constructors.length);
        CHECKS.same("its modifiers", "public", Modifier.toString(constructors[0].getModifiers()));
        CHECKS.same("its parameters", 0, constructors[0].getParameterCount());
        for (Field field : ClickTrack.class.getDeclaredFields()) {
            String modifiers = Modifier.toString(field.getModifiers());
            if (field.getName().equals("NONE")) {
                CHECKS.same("NONE", "public static final", modifiers);
            } else {
                CHECKS.same(field.getName() + " is private", true, Modifier.isPrivate(field.getModifiers()));
            }
        }
    }

    private static List<Class<?>> everyClass() {
        Set<Class<?>> all = new HashSet<>(Arrays.asList(ClickTrack.class.getDeclaredClasses()));
        all.add(ClickTrack.class);
        return List.copyOf(all);
    }

    private static void classesInside() {
        CHECKS.same("at most twelve classes", true, everyClass().size() <= 12);
        for (Class<?> any : everyClass()) {
            if (any != ClickTrack.class) {
                String modifiers = Modifier.toString(any.getModifiers());
                CHECKS.same("modifiers of " + any.getSimpleName(), "private static final", modifiers);
            }
            long fields = 0;
            for (Field field : any.getDeclaredFields()) {
                boolean isStatic = Modifier.isStatic(field.getModifiers());
                fields += isStatic ? 0 : 1;
                CHECKS.same("static " + field.getName() + " is final", true,
                        !isStatic || Modifier.isFinal(field.getModifiers()));
            }
            CHECKS.same("at most twenty fields in " + any.getSimpleName(), true, fields <= 20);
        }
    }

    private static void source() throws IOException {
        String text = Files.readString(SOURCE);
        String code = text.replaceAll("(?s)/\\*.*?\\*/", "").replaceAll("//[^\n]*", "").replaceAll("\"[^\"\n]*\"", "\"\"");
        for (String word : new String[] {"package", "finally", "synchronized", "assert", "instanceof", "catch", "try",
            "protected", "volatile", "transient", "native", "strictfp", "double", "float", "var", "record", "enum"}) {
            CHECKS.same("the word " + word, false, Pattern.compile("\\b" + word + "\\b").matcher(code).find());
        }
        CHECKS.same("a lambda", false, code.contains("->"));
        CHECKS.same("a method reference", false, code.contains("::"));
        CHECKS.same("other signs", true, text.chars().allMatch(c -> c == '\n' || c >= 32 && c < 127));
        for (String line : code.split("\n")) {
            String trimmed = line.trim();
            CHECKS.same("an import other than Arrays: " + trimmed, false,
                    trimmed.startsWith("import") && !trimmed.equals("import java.util.Arrays;"));
            boolean makes = Pattern.compile("\\bnew\\b").matcher(trimmed).find();
            boolean isThrown = trimmed.matches("throw new (IndexOutOfBounds|IllegalArgument|IllegalState)Exception\\(\"\"\\);");
            boolean isKept = trimmed.matches("(private )?final .* = new .*;|(slots|states)\\[\\w+\\] = new State\\(\\);");
            CHECKS.same("something new in a call: " + trimmed, true, !makes || isThrown || isKept);
        }
    }
}
