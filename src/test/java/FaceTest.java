import java.io.IOException;
import java.lang.reflect.Constructor;
import java.lang.reflect.Field;
import java.lang.reflect.Method;
import java.lang.reflect.Modifier;
import java.nio.file.Files;
import java.nio.file.Path;
import java.util.Arrays;
import java.util.Set;
import java.util.TreeSet;
import java.util.regex.Matcher;
import java.util.regex.Pattern;

/** The public face is the document's and no more, and the source keeps to what LANGUAGE.md lets it use. */
public final class FaceTest {
    private static final String[] FACE = {
        "int write(int)", "int wipe()", "int fault()", "int market()", "int ladder(int,int)",
        "int person(int,int)", "int at(int)", "int day()", "int move(int,int)", "int down(int)",
        "int give(int,int)", "int undo()", "int luck(int,int)", "int gold(int,int)", "int lost(int)",
        "int spot(int,int)", "int round(int,int)", "int judge(int,long)", "int see(int,int)", "int unsee()",
        "int may(int)", "int share(int,int,boolean)", "int rests(int,int,int)",
        "int stays(int,int,int,boolean)", "long seed(long)", "int years(int)", "int keep(int)",
        "int again(int)", "int count(int)"};
    private static final String[] CONSTANTS = {"UNKNOWN", "OUTSIDE", "STATE", "FULL", "NONE"};
    private static final String[] RULED_OUT = {
        "\\bthrow\\b", "\\btry\\b", "\\bcatch\\b", "\\bsynchronized\\b", "\\bassert\\b", "->", "::",
        "\\bimport\\b", "\\bpackage\\b", "\\bprotected\\b", "Exact\\b", "\\bSystem\\.(?!arraycopy)"};

    private static final Set<Class<?>> STATIC_TYPES = Set.of(int.class, long.class, boolean.class, char.class,
            String.class, int[].class, long[].class, char[].class, byte[].class);
    private static final int MOST_CLASSES = 12, MOST_FIELDS = 20, MOST_PARAMETERS = 7, MOST_LINES = 60;
    /** A method's or constructor's first line, by its indent: 4 in the class, 8 in those inside it. */
    private static final Pattern HEAD = Pattern.compile("( {4}| {8})(?:\\w[\\w\\[\\]]* )*(\\w+)\\([^)]*\\) \\{");
    private static final Pattern INDEX = Pattern.compile("(?<!new )\\b\\w+\\[([^\\]]+)\\]");

    private static final Due due = new Due("FaceTest");

    public static void main(String[] args) throws IOException {
        Class<?> face = UnderLadders.class;
        due.is("public and final", face.getModifiers(), Modifier.PUBLIC | Modifier.FINAL);
        checkMethods(face);
        checkFields(face);
        checkConstructors(face);
        for (Class<?> inside : face.getDeclaredClasses()) {
            due.is(inside + " is static", inside.getModifiers() & Modifier.STATIC, Modifier.STATIC);
            due.is(inside + " is not public", inside.getModifiers() & Modifier.PUBLIC, 0);
            checkNoPublicName(inside);
        }
        due.yes("rule 11: classes", face.getDeclaredClasses().length < MOST_CLASSES);
        checkSizes(face);
        for (Class<?> inside : face.getDeclaredClasses()) {
            checkSizes(inside);
        }
        String source = Files.readString(Path.of("src/main/java/UnderLadders.java"));
        checkSource(source);
        checkIndexes(source);
        checkMethodTexts(source.split("\n"));
        due.end();
    }

    private static void checkMethods(Class<?> face) {
        Set<String> wanted = new TreeSet<>(Arrays.asList(FACE));
        for (Method m : face.getDeclaredMethods()) {
            String told = m.getReturnType() + " " + m.getName()
                    + Arrays.toString(m.getParameterTypes()).replace('[', '(').replace(']', ')').replace(" ", "");
            boolean isPublic = Modifier.isPublic(m.getModifiers());
            due.is(told + " is public or private", isPublic || Modifier.isPrivate(m.getModifiers()) ? 1 : 0, 1);
            if (isPublic) {
                due.is(told + " is in the document", wanted.remove(told) ? 1 : 0, 1);
            } else {
                due.is(told + " bears a public name", isPublicName(m.getName()) ? 1 : 0, 0);
            }
        }
        due.is("methods that are missing: " + wanted, wanted.size(), 0);
    }

    private static boolean isPublicName(String name) {
        return Arrays.stream(FACE).anyMatch(told -> told.contains(" " + name + "("));
    }

    private static void checkNoPublicName(Class<?> inside) {
        for (Method m : inside.getDeclaredMethods()) {
            due.is(inside + "." + m.getName() + " bears a public name", isPublicName(m.getName()) ? 1 : 0, 0);
        }
    }

    private static void checkFields(Class<?> face) {
        Set<String> wanted = new TreeSet<>(Arrays.asList(CONSTANTS));
        for (Field f : face.getDeclaredFields()) {
            if (Modifier.isPrivate(f.getModifiers())) {
                continue;
            }
            due.is(f + " is in the document", wanted.remove(f.getName()) ? 1 : 0, 1);
            due.is(f + " is a constant", f.getModifiers(), Modifier.PUBLIC | Modifier.STATIC | Modifier.FINAL);
        }
        due.is("constants that are missing: " + wanted, wanted.size(), 0);
    }

    private static void checkConstructors(Class<?> face) {
        Constructor<?>[] all = face.getDeclaredConstructors();
        due.is("constructors", all.length, 1);
        due.is("its parameters", all[0].getParameterCount(), 0);
        due.is("it is public", all[0].getModifiers(), Modifier.PUBLIC);
    }

    private static void checkSource(String source) {
        String code = source.replaceAll("(?s)/\\*.*?\\*/", "").replaceAll("//[^\n]*", "");
        for (String form : RULED_OUT) {
            due.is("the source has " + form, Pattern.compile(form).matcher(code).find() ? 1 : 0, 0);
        }
        due.is("signs beyond 127", source.chars().filter(c -> c > 127).count(), 0);
    }

    /** Rules 5 and 11: no static state, few fields, few parameters. */
    private static void checkSizes(Class<?> one) {
        int fields = 0;
        for (Field f : one.getDeclaredFields()) {
            if (Modifier.isStatic(f.getModifiers())) {
                due.yes("rule 5: " + f + " is final", Modifier.isFinal(f.getModifiers()));
                due.yes("rule 5: " + f + " is of a type for constants", STATIC_TYPES.contains(f.getType()));
            } else {
                fields++;
            }
        }
        due.yes("rule 11: fields of " + one, fields <= MOST_FIELDS);
        for (Method m : one.getDeclaredMethods()) {
            due.yes("rule 11: parameters of " + m, m.getParameterCount() <= MOST_PARAMETERS);
        }
    }

    /** Rule 7: an index that is reckoned gets a name first, by which it can be looked at before it is used. */
    private static void checkIndexes(String source) {
        Matcher index = INDEX.matcher(source);
        while (index.find()) {
            due.yes("rule 7: a plain name or number is the index of " + index.group(), index.group(1).matches("\\w+"));
        }
    }

    private static int declaredIn(Class<?> one) {
        int declared = one.getDeclaredMethods().length + one.getDeclaredConstructors().length;
        for (Class<?> inside : one.getDeclaredClasses()) {
            declared += declaredIn(inside);
        }
        return declared;
    }

    /** Rules 11 and 12: methods are short, and only constructors make objects. */
    private static void checkMethodTexts(String[] lines) {
        int found = 0;
        for (int i = 0; i < lines.length; i++) {
            Matcher head = HEAD.matcher(lines[i]);
            if (!head.matches()) {
                continue;
            }
            found++;
            int end = i;
            boolean makes = false;
            while (!lines[end].equals(head.group(1) + "}")) {
                end++;
                makes |= lines[end].matches(".*\\bnew\\b.*");
            }
            due.yes("rule 11: lines of " + lines[i].trim(), end - i + 1 <= MOST_LINES);
            boolean isConstructor = Character.isUpperCase(head.group(2).charAt(0));
            due.yes("rule 12: only constructors make objects: " + lines[i].trim(), isConstructor || !makes);
        }
        due.is("methods and constructors read", found, declaredIn(UnderLadders.class));
    }
}
