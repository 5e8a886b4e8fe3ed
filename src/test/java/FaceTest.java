import java.io.IOException;
import java.lang.reflect.Constructor;
import java.lang.reflect.Field;
import java.lang.reflect.Method;
import java.lang.reflect.Modifier;
import java.nio.file.Files;
import java.nio.file.Path;
import java.util.Arrays;
import java.util.Set;
import java.util.TreeSet;
import java.util.regex.Pattern;

/** The public face is the document's and no more, and the source keeps to what LANGUAGE.md lets it use. */
public final class FaceTest {
    private static final String[] FACE = {
        "int write(int)", "int wipe()", "int fault()", "int market()", "int ladder(int,int)",
        "int person(int,int)", "int at(int)", "int day()", "int move(int,int)", "int down(int)",
        "int give(int,int)", "int undo()", "int luck(int,int)", "int gold(int,int)", "int lost(int)",
        "int spot(int,int)", "int round(int,int)", "int judge(int,long)", "int see(int,int)", "int unsee()",
        "int may(int)", "int share(int,int,boolean)", "int rests(int,int,int)",
        "int stays(int,int,int,boolean)", "long seed(long)", "int years(int)", "int keep(int)",
        "int again(int)", "int count(int)"};
    private static final String[] CONSTANTS = {"UNKNOWN", "OUTSIDE", "STATE", "FULL", "NONE"};
    private static final String[] RULED_OUT = {
        "\\bthrow\\b", "\\btry\\b", "\\bcatch\\b", "\\bsynchronized\\b", "\\bassert\\b", "->", "::",
        "\\bimport\\b", "\\bpackage\\b", "\\bprotected\\b", "Exact\\b", "\\bSystem\\.(?!arraycopy)"};

    private static final Due due = new Due("FaceTest");

    public static void main(String[] args) throws IOException {
        Class<?> face = UnderLadders.class;
        due.is("public and final", face.getModifiers(), Modifier.PUBLIC | Modifier.FINAL);
        checkMethods(face);
        checkFields(face);
        checkConstructors(face);
        for (Class<?> inside : face.getDeclaredClasses()) {
            due.is(inside + " is static", inside.getModifiers() & Modifier.STATIC, Modifier.STATIC);
            due.is(inside + " is not public", inside.getModifiers() & Modifier.PUBLIC, 0);
            checkNoPublicName(inside);
        }
        checkSource(Files.readString(Path.of("src/main/java/UnderLadders.java")));
        due.end();
    }

    private static void checkMethods(Class<?> face) {
        Set<String> wanted = new TreeSet<>(Arrays.asList(FACE));
        for (Method m : face.getDeclaredMethods()) {
            String told = m.getReturnType() + " " + m.getName()
                    + Arrays.toString(m.getParameterTypes()).replace('[', '(').replace(']', ')').replace(" ", "");
            boolean isPublic = Modifier.isPublic(m.getModifiers());
            due.is(told + " is public or private", isPublic || Modifier.isPrivate(m.getModifiers()) ? 1 : 0, 1);
            if (isPublic) {
                due.is(told + " is in the document", wanted.remove(told) ? 1 : 0, 1);
            } else {
                due.is(told + " bears a public name", isPublicName(m.getName()) ? 1 : 0, 0);
            }
        }
        due.is("methods that are missing: " + wanted, wanted.size(), 0);
    }

    private static boolean isPublicName(String name) {
        return Arrays.stream(FACE).anyMatch(told -> told.contains(" " + name + "("));
    }

    private static void checkNoPublicName(Class<?> inside) {
        for (Method m : inside.getDeclaredMethods()) {
            due.is(inside + "." + m.getName() + " bears a public name", isPublicName(m.getName()) ? 1 : 0, 0);
        }
    }

    private static void checkFields(Class<?> face) {
        Set<String> wanted = new TreeSet<>(Arrays.asList(CONSTANTS));
        for (Field f : face.getDeclaredFields()) {
            if (Modifier.isPrivate(f.getModifiers())) {
                continue;
            }
            due.is(f + " is in the document", wanted.remove(f.getName()) ? 1 : 0, 1);
            due.is(f + " is a constant", f.getModifiers(), Modifier.PUBLIC | Modifier.STATIC | Modifier.FINAL);
        }
        due.is("constants that are missing: " + wanted, wanted.size(), 0);
    }

    private static void checkConstructors(Class<?> face) {
        Constructor<?>[] all = face.getDeclaredConstructors();
        due.is("constructors", all.length, 1);
        due.is("its parameters", all[0].getParameterCount(), 0);
        due.is("it is public", all[0].getModifiers(), Modifier.PUBLIC);
    }

    private static void checkSource(String source) {
        String code = source.replaceAll("(?s)/\\*.*?\\*/", "").replaceAll("//[^\n]*", "");
        for (String form : RULED_OUT) {
            due.is("the source has " + form, Pattern.compile(form).matcher(code).find() ? 1 : 0, 0);
        }
        due.is("signs beyond 127", source.chars().filter(c -> c > 127).count(), 0);
    }
}
