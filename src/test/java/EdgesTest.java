import java.lang.reflect.Method;
import java.nio.file.Files;
import java.nio.file.Path;
import java.util.ArrayList;
import java.util.Comparator;
import java.util.List;
import java.util.Map;

/**
 * The boundary cases, sentence by sentence: every method with the sign Says is a test of its own.
 * Then it is asked whether each sentence of the document is quoted by such a test.
 */
public final class EdgesTest {
    private static final Class<?>[] ALL = {PartEdges.class, TaleEdges.class, HearerEdges.class, SeveralEdges.class,
        TextEdges.class, SheetEdges.class, ImageEdges.class};

    public static void main(String[] args) throws Exception {
        List<Method> tests = tests();
        for (Method test : tests) {
            Edge.begin("promise " + test.getAnnotation(Says.class).promise() + ", " + test.getName());
            test.invoke(null);
        }
        System.out.println(tests.size() + " boundary cases");
        Path document = Path.of(System.getProperty("yearwords.root", "."), "../shared/DOC.md");
        if (Files.exists(document)) {
            everySentenceHasATest(Section.all(Files.readString(document)), tests);
        } else {
            System.out.println("no " + document + ": not asked whether each sentence has a test");
        }
        Due.end("EdgesTest");
    }

    /** In the document's order, whatever order the machine tells them in. */
    private static List<Method> tests() {
        List<Method> tests = new ArrayList<>();
        for (Class<?> c : ALL) {
            for (Method m : c.getDeclaredMethods()) {
                if (m.isAnnotationPresent(Says.class)) {
                    tests.add(m);
                }
            }
        }
        tests.sort(Comparator.comparing((Method m) -> m.getAnnotation(Says.class).promise()).thenComparing(Method::getName));
        return tests;
    }

    private static void everySentenceHasATest(Map<Integer, Section> sections, List<Method> tests) {
        for (Method test : tests) {
            Says says = test.getAnnotation(Says.class);
            Due.holds(test.getName() + " quotes something", says.words().length + says.terms().length > 0);
            for (String words : says.words()) {
                Due.holds("promise " + says.promise() + " says once '" + words + "'", sections.get(says.promise()).quote(words));
            }
            for (String words : says.terms()) {
                Due.holds("'Terms' say once '" + words + "'", sections.get(Section.TERMS).quote(words));
            }
        }
        for (Map.Entry<Integer, Section> section : sections.entrySet()) {
            String untold = section.getValue().untold();
            Due.holds("promise " + section.getKey() + " (0: Terms) has a test for: " + untold, untold.isEmpty());
        }
    }
}
