import java.io.IOException;
import java.lang.reflect.Field;
import java.lang.reflect.Method;
import java.lang.reflect.Modifier;
import java.nio.file.Files;
import java.nio.file.Path;
import java.util.ArrayList;
import java.util.Arrays;
import java.util.HashSet;
import java.util.List;
import java.util.Set;
import java.util.TreeSet;
import java.util.regex.Matcher;
import java.util.regex.Pattern;

/** The face of the document, and the rules of LANGUAGE.md that can be seen from outside or in the source's words. */
public final class LanguageTest {
    private static final String SOURCE = "src/main/java/CardBecome.java";
    /** Name and number of ints of every method of the face. */
    private static final String FACE = "feed1 table0 fault0 told1 card2 pack1 person2 logged2 drawOne1 getBack1 meet2 force1 "
        + "shuffle1 drawer1 out1 drift1 undo0 beats2 rings1 order1 row3 tells0 odds2 back1 missing1 wanted1 see3 deals2 ask1 "
        + "write2 tear0 judge0 seed1 keep1 goBack1";
    private static final String[] NEVER = {"throw", "throws", "try", "catch", "finally", "synchronized", "assert", "protected",
        "hashCode", "toString", "native", "volatile", "transient", "var", "Object", "Exception", "->", "::", "\"", "instanceof",
        "Integer\\.MAX_VALUE", "Integer\\.MIN_VALUE"};

    private static int wrong;

    private static void due(boolean so, String what) {
        if (!so) {
            wrong++;
            System.out.println("not so: " + what);
        }
    }

    public static void main(String[] args) throws IOException {
        face();
        nestedClasses();
        source(Files.readString(Path.of(SOURCE)));
        System.out.println(wrong == 0 ? "the face and the language are as told" : wrong + " rules are broken");
        if (wrong != 0) {
            System.exit(1);
        }
    }

    private static void face() {
        Set<String> open = new TreeSet<>();
        Set<String> hidden = new HashSet<>();
        for (Method method : CardBecome.class.getDeclaredMethods()) {
            int modifiers = method.getModifiers();
            due(Modifier.isPublic(modifiers) || Modifier.isPrivate(modifiers), method + " is public or private");
            if (Modifier.isPublic(modifiers)) {
                due(method.getReturnType() == int.class && !Modifier.isStatic(modifiers), method + " answers an int");
                due(Arrays.stream(method.getParameterTypes()).allMatch(type -> type == int.class), method + " takes ints");
                open.add(method.getName() + method.getParameterCount());
            } else {
                hidden.add(method.getName());
            }
        }
        due(open.equals(new TreeSet<>(Arrays.asList(FACE.split(" ")))), "the face has the document's methods: " + open);
        for (String name : open) {
            due(!hidden.contains(name.substring(0, name.length() - 1)), "no private method is called " + name);
        }
        Set<String> constants = new TreeSet<>();
        for (Field field : CardBecome.class.getDeclaredFields()) {
            int modifiers = field.getModifiers();
            due(Modifier.isPublic(modifiers) || Modifier.isPrivate(modifiers), field + " is public or private");
            due(!Modifier.isStatic(modifiers) || Modifier.isFinal(modifiers), field + " is final if static");
            if (Modifier.isPublic(modifiers)) {
                constants.add(field.getName());
            }
        }
        due(constants.equals(new TreeSet<>(List.of("NONE", "UNKNOWN", "OUTSIDE", "NOT", "FULL"))), "the face's constants: " + constants);
        due(Modifier.isFinal(CardBecome.class.getModifiers()), "the class is final");
        due(CardBecome.class.getConstructors().length == 1, "there is one constructor");
    }

    private static void nestedClasses() {
        Class<?>[] inside = CardBecome.class.getDeclaredClasses();
        due(inside.length <= 12, "there are twelve classes at most");
        for (Class<?> one : inside) {
            due(Modifier.isStatic(one.getModifiers()) && Modifier.isPrivate(one.getModifiers()), one + " is private and static");
            long fields = Arrays.stream(one.getDeclaredFields()).filter(field -> !Modifier.isStatic(field.getModifiers())).count();
            due(fields <= 20, one + " has twenty fields at most");
            for (Method method : one.getDeclaredMethods()) {
                due(method.getParameterCount() <= 7, method + " takes seven parameters at most");
            }
        }
    }

    private static void source(String text) {
        String code = text.replaceAll("(?s)/\\*.*?\\*/", "").replaceAll("//[^\n]*", "");
        for (String word : NEVER) {
            String form = Character.isLetter(word.charAt(0)) ? "\\b" + word + "\\b" : Pattern.quote(word);
            due(!Pattern.compile(form).matcher(code).find(), "the source has no " + word);
        }
        due(code.replaceAll("import java\\.util\\.Arrays;", "").indexOf("import ") < 0, "only Arrays is imported");
        due(text.chars().allMatch(letter -> letter == '\n' || letter >= 32 && letter < 127), "plain letters alone");
        libraryCalls(code);
        methodLengths(code);
    }

    private static void libraryCalls(String code) {
        Set<String> allowed = Set.of("Arrays.fill", "System.arraycopy", "Integer.bitCount", "Math.min", "Math.max", "Math.floorMod");
        Matcher call = Pattern.compile("\\b(Arrays|System|Integer|Long|Math|String|StringBuilder)\\.(\\w+)").matcher(code);
        while (call.find()) {
            due(allowed.contains(call.group()), call.group() + " is of the library that is allowed");
        }
    }

    private static void methodLengths(String code) {
        List<Integer> starts = new ArrayList<>();
        String[] lines = code.split("\n");
        for (int i = 0; i < lines.length; i++) {
            if (lines[i].matches(" {4}( {4})?(\\w+ )*\\w+\\(.*\\) \\{")) {
                starts.add(i);
            }
        }
        due(starts.size() > 60, "the methods were found");
        for (int start : starts) {
            String end = lines[start].replaceAll("\\S.*", "}");
            int length = 0;
            while (start + length < lines.length && !lines[start + length].equals(end)) {
                length++;
            }
            due(length <= 60, lines[start].trim() + " is of sixty lines at most");
        }
    }
}
