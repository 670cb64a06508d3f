import java.lang.reflect.Constructor;
import java.lang.reflect.Field;
import java.lang.reflect.Method;
import java.lang.reflect.Modifier;
import java.nio.file.Files;
import java.nio.file.Path;
import java.util.Map;
import java.util.Set;
import java.util.TreeMap;
import java.util.TreeSet;
import java.util.regex.Matcher;
import java.util.regex.Pattern;

/** The face of the class, and those rules of LANGUAGE.md that can be seen from its text. */
public final class FaceTest {
    private static final String[] FACE = {
        "letter 1", "tongue 0", "word 2", "road 2", "stone 1", "put 2", "turn 1", "bare 0", "at 1", "reads 2",
        "same 1", "says 1", "judge 0", "shortest 3", "each 1", "rings 2", "sayable 1", "needed 0", "worn 1",
        "likeliest 1", "sure 1", "safe 1", "pair 2", "every 1", "stones 0", "made 1", "towers 3", "image 0", "on 0",
        "count 1"};

    public static void main(String[] args) throws Exception {
        Check check = new Check();
        face(check);
        nested(check);
        text(check, Files.readString(Path.of("src/main/java/ReadFromAnywhere.java")));
        check.end();
    }

    /** The names of all calls. */
    static Set<String> names() {
        return due().keySet();
    }

    /** How many numbers each call takes. */
    private static Map<String, Integer> due() {
        Map<String, Integer> due = new TreeMap<>();
        for (String row : FACE) {
            String[] parts = row.split(" ");
            due.put(parts[0], Integer.valueOf(parts[1]));
        }
        return due;
    }

    private static void face(Check check) {
        check.part("face");
        Map<String, Integer> due = due();
        Class<?> type = ReadFromAnywhere.class;
        check.holds("the class is public and final",
            Modifier.isPublic(type.getModifiers()) && Modifier.isFinal(type.getModifiers()));
        Constructor<?>[] constructors = type.getDeclaredConstructors();
        check.holds("one public constructor without parameters", constructors.length == 1
            && Modifier.isPublic(constructors[0].getModifiers()) && constructors[0].getParameterCount() == 0);
        Set<String> seen = new TreeSet<>();
        for (Method method : type.getDeclaredMethods()) {
            String name = method.getName();
            if (!Modifier.isPublic(method.getModifiers())) {
                check.holds(name + " is private", Modifier.isPrivate(method.getModifiers()));
                check.holds(name + " bears no public name", !due.containsKey(name));
                continue;
            }
            seen.add(name);
            check.holds(name + " answers an int", method.getReturnType() == int.class);
            check.holds(name + " stands in the face",
                due.containsKey(name) && due.get(name) == method.getParameterCount());
        }
        check.holds("all of the face is there", seen.equals(due.keySet()));
        for (Field field : type.getDeclaredFields()) {
            check.holds(field.getName() + " is private", Modifier.isPrivate(field.getModifiers()));
        }
    }

    private static void nested(Check check) {
        check.part("nested");
        Class<?>[] classes = ReadFromAnywhere.class.getDeclaredClasses();
        check.holds("at most twelve classes", classes.length <= 11);
        for (Class<?> type : classes) {
            check.holds(type + " is static", Modifier.isStatic(type.getModifiers()));
            check.holds(type + " is not public", !Modifier.isPublic(type.getModifiers()));
            check.holds(type + " has at most twenty fields", type.getDeclaredFields().length <= 20);
            for (Field field : type.getDeclaredFields()) {
                check.holds(field + " is final, if static",
                    !Modifier.isStatic(field.getModifiers()) || Modifier.isFinal(field.getModifiers()));
            }
            for (Method method : type.getDeclaredMethods()) {
                check.holds(method + " has at most seven parameters", method.getParameterCount() <= 7);
            }
        }
    }

    private static void text(Check check, String source) {
        check.part("text");
        String code = source.replaceAll("(?s)/\\*.*?\\*/", "").replaceAll("//[^\n]*", "");
        for (String banned : new String[] {"throw", "throws", "try", "catch", "finally", "synchronized", "assert",
            "double", "float", "package", "->", "::", "Random", "System\\.(?!arraycopy)", "Thread", "protected",
            "Object", "hashCode", "toString"}) {
            Matcher matcher = Pattern.compile(banned.matches("\\w+") ? "\\b" + banned + "\\b" : banned).matcher(code);
            check.holds("no " + banned, !matcher.find());
        }
        check.holds("plain signs alone", source.chars().allMatch(c -> c == '\n' || c >= 32 && c < 127));
        Matcher imports = Pattern.compile("import ([\\w.]+);").matcher(code);
        while (imports.find()) {
            check.holds("import " + imports.group(1), imports.group(1).equals("java.util.Arrays"));
        }
        methods(check, code.split("\n"));
    }

    private static void methods(Check check, String[] rows) {
        Pattern opening = Pattern.compile("((?: {4}){1,2})((?:[\\w\\[\\]]+ )*)(\\w+)\\(.*\\) \\{");
        Matcher head = null;
        int opened = 0;
        int closed = 0;
        for (int line = 0; line < rows.length; line++) {
            Matcher matcher = opening.matcher(rows[line]);
            if (matcher.matches()) {
                head = matcher;
                opened = line;
            } else if (head != null && rows[line].equals(head.group(1) + "}")) {
                check.holds(head.group(3) + " is short (rule 11)", line - opened < 60);
                head = null;
                closed++;
            } else if (head != null && rows[line].matches(".*(?<![\\w.])" + head.group(3) + "\\(.*")) {
                check.holds(head.group(3) + ", which calls itself, is private and static (rule 8)",
                    head.group(2).startsWith("private static "));
            }
        }
        check.holds("methods are found", closed > FACE.length);
    }
}
