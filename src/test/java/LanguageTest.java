import java.io.IOException;
import java.lang.reflect.Constructor;
import java.lang.reflect.Field;
import java.lang.reflect.Method;
import java.lang.reflect.Modifier;
import java.nio.file.Files;
import java.nio.file.Path;
import java.util.ArrayDeque;
import java.util.Deque;
import java.util.Set;
import java.util.TreeSet;

/** What of ../shared/LANGUAGE.md can be seen from outside: the face, sizes, words that the program does without. */
public final class LanguageTest {
    private static final String[] FACE = {
        "int owner(int, int)", "int as(int, int)", "int shop(int, int, int, int)", "int about(int, int)",
        "int price(int, int)", "int sort(int, int, int, int, int, int)", "int is(int, int)", "int goes(int)",
        "int spare(int)", "int profit(int)", "int best(int, int)", "int turn(int)", "int rest()", "int otherwise()",
        "int gain(int)", "int market(int, int, boolean)", "int instead(int, int)", "int from(int, int)",
        "int merge(int, int)", "int dearer(int, int, int)", "int harm(int, int, int)", "int soldOff(int, int, int, int)",
        "int twice(int, int, int, int, int)", "int letters(long)", "int blank()", "int fault()", "int test()",
        "int bars(int, int, int)", "int wrong(int, int)", "int image()", "int restore()", "int count(int)",
        "long digest()"};
    private static final String[] CONSTANTS = {"NONE", "UNKNOWN", "OUTSIDE", "STATE", "FULL"};
    private static final String[] NOT_THERE = {"import ", "package ", "catch", "try {", "finally", "throw", "->", "::",
        "synchronized", "assert", "instanceof", "Object", "Exact", "System.", "String", "Thread", "Random", "hashCode",
        "MIN_VALUE", "MAX_VALUE", "static {", "var ", "native", "goto", "while"};
    private static final int METHOD_LINES = 60, PARAMETERS = 7, CLASSES = 12, FIELDS = 20;
    private static int wrong;

    private static void check(boolean holds, String otherwise) {
        if (!holds) {
            wrong++;
            System.out.println(otherwise);
        }
    }

    private static String told(Method m) {
        StringBuilder text = new StringBuilder(m.getReturnType().getName() + " " + m.getName() + "(");
        for (Class<?> type : m.getParameterTypes()) {
            text.append(text.charAt(text.length() - 1) == '(' ? "" : ", ").append(type.getName());
        }
        return text.append(")").toString();
    }

    private static void checkFace() {
        Set<String> due = new TreeSet<>(Set.of(FACE));
        Set<String> names = new TreeSet<>();
        for (String call : FACE) {
            names.add(call.substring(call.indexOf(' ') + 1, call.indexOf('(')));
        }
        Class<?> face = ShopsAsOne.class;
        check(Modifier.isPublic(face.getModifiers()) && Modifier.isFinal(face.getModifiers()), "the class is not public, final");
        for (Method m : face.getDeclaredMethods()) {
            if (Modifier.isPublic(m.getModifiers())) {
                check(due.remove(told(m)) && !Modifier.isStatic(m.getModifiers()), "not of the face: " + told(m));
            } else {
                check(Modifier.isPrivate(m.getModifiers()), "not private: " + told(m));
                check(!names.contains(m.getName()), "private, and named as a public one: " + told(m));
            }
        }
        check(due.isEmpty(), "missing: " + due);
        Constructor<?>[] made = face.getDeclaredConstructors();
        check(made.length == 1 && Modifier.isPublic(made[0].getModifiers()) && made[0].getParameterCount() == 0, "constructors");
        Set<String> constants = new TreeSet<>(Set.of(CONSTANTS));
        for (Field f : face.getDeclaredFields()) {
            boolean isConstant = constants.remove(f.getName());
            int is = f.getModifiers();
            check(Modifier.isPublic(is) == isConstant && Modifier.isPrivate(is) != isConstant, "field " + f.getName());
        }
        check(constants.isEmpty(), "missing: " + constants);
        for (Class<?> inside : face.getDeclaredClasses()) {
            for (Method m : inside.getDeclaredMethods()) {
                check(!names.contains(m.getName()), inside.getName() + " has a method named as one of the face: " + told(m));
            }
        }
    }

    private static void checkSizes(Class<?> type) {
        int fields = 0;
        for (Field f : type.getDeclaredFields()) {
            boolean isStatic = Modifier.isStatic(f.getModifiers());
            check(!isStatic || Modifier.isFinal(f.getModifiers()), "static and not final: " + f);
            fields += isStatic ? 0 : 1;
        }
        check(fields <= FIELDS, type + " has " + fields + " fields");
        for (Method m : type.getDeclaredMethods()) {
            check(m.getParameterCount() <= PARAMETERS, "too many parameters: " + m);
        }
        if (type != ShopsAsOne.class) {
            check(Modifier.isStatic(type.getModifiers()) && !Modifier.isPublic(type.getModifiers()), type + " inside");
        }
    }

    private static String withoutComments(String source) {
        return source.replaceAll("(?s)/\\*.*?\\*/", "").replaceAll("//[^\n]*", "");
    }

    private static void checkWords(String source) {
        String code = withoutComments(source);
        for (String word : NOT_THERE) {
            check(!code.contains(word), "the program says " + word);
        }
        for (int i = 0; i < source.length(); i++) {
            check(source.charAt(i) < 128, "sign " + (int) source.charAt(i) + " at " + i);
        }
        check(newOnlyInFields(code), "something is made outside constructors and fields");
    }

    /** Each line with 'new' is a field's, or the one of the constructor. */
    private static boolean newOnlyInFields(String code) {
        for (String line : code.split("\n")) {
            boolean isField = line.matches(" +(private )?final .* = new .*;");
            boolean isOfConstructor = line.matches(" +(tests\\[i]|before|behind) = new .*;");
            if (line.contains(" new ") && !isField && !isOfConstructor) {
                System.out.println(line);
                return false;
            }
        }
        return true;
    }

    private static void checkLengths(String source) {
        Deque<Integer> starts = new ArrayDeque<>();
        String[] lines = source.split("\n");
        for (int i = 0; i < lines.length; i++) {
            boolean isMethod = lines[i].matches(" +(public |private )?(static )?(int|long|boolean|void|char) \\w+\\(.*");
            if (isMethod) {
                starts.push(i);
            }
            int indent = lines[i].length() - lines[i].stripLeading().length();
            if (!starts.isEmpty() && lines[i].strip().equals("}")) {
                String first = lines[starts.peek()];
                if (indent == first.length() - first.stripLeading().length()) {
                    check(i - starts.peek() < METHOD_LINES, "too long: " + first);
                    starts.pop();
                }
            }
        }
    }

    public static void main(String[] args) throws IOException {
        String source = Files.readString(Path.of("src/main/java/ShopsAsOne.java"));
        checkFace();
        Class<?>[] inside = ShopsAsOne.class.getDeclaredClasses();
        check(inside.length < CLASSES, inside.length + " classes inside");
        checkSizes(ShopsAsOne.class);
        for (Class<?> type : inside) {
            checkSizes(type);
        }
        checkWords(source);
        checkLengths(source);
        System.out.println(wrong == 0 ? "the language is kept to" : wrong + " rules are not kept to");
        if (wrong != 0) {
            System.exit(1);
        }
    }
}
