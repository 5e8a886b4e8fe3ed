import java.io.IOException;
import java.lang.reflect.InvocationTargetException;
import java.lang.reflect.Method;
import java.nio.file.Files;
import java.nio.file.Path;
import java.util.ArrayList;
import java.util.Comparator;
import java.util.List;

/**
 * Every boundary case that the document names, each in a test of its own (the methods marked with Edge).
 * The words that a test quotes must stand in DOC.md, and every promise must have a test.
 */
public final class EdgesTest {
    private static final int PROMISES = 30;
    private static final Class<?>[] TESTS = {
        MarketEdges.class, ActsEdges.class, AheadEdges.class, SeenEdges.class, ChancesEdges.class,
        SlotsEdges.class, RefusedEdges.class};

    private final Due due = new Due("EdgesTest");
    private final boolean[] tested = new boolean[PROMISES + 1];
    private final String document;

    private EdgesTest(String document) {
        this.document = document;
    }

    public static void main(String[] args) throws IOException {
        EdgesTest all = new EdgesTest(Files.readString(Path.of("../shared/DOC.md")));
        int tests = 0;
        for (Class<?> tested : TESTS) {
            for (Method test : edgesOf(tested)) {
                all.runEdge(test);
                tests++;
            }
        }
        for (int promise = 1; promise <= PROMISES; promise++) {
            all.due.yes("promise " + promise + " has a test", all.tested[promise]);
        }
        System.out.println("EdgesTest: " + tests + " boundary cases");
        all.due.end();
    }

    private static List<Method> edgesOf(Class<?> tested) {
        List<Method> edges = new ArrayList<>();
        for (Method method : tested.getDeclaredMethods()) {
            if (method.isAnnotationPresent(Edge.class)) {
                edges.add(method);
            }
        }
        edges.sort(Comparator.comparing(Method::getName));
        return edges;
    }

    private void runEdge(Method test) {
        String name = test.getDeclaringClass().getSimpleName() + "." + test.getName();
        Edge edge = test.getAnnotation(Edge.class);
        due.yes(name + " quotes the document: " + edge.says(), document.contains(edge.says()));
        for (int promise : edge.promise()) {
            tested[promise] = true;
        }
        due.within(name);
        try {
            test.invoke(null, due);
        } catch (InvocationTargetException thrown) {
            due.yes("threw " + thrown.getCause(), false);
        } catch (IllegalAccessException hidden) {
            due.yes("can not be called: " + hidden, false);
        }
        due.within("");
    }
}
