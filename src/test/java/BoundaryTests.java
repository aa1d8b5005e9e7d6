import java.io.IOException;
import java.lang.reflect.InvocationTargetException;
import java.lang.reflect.Method;
import java.nio.file.Path;
import java.util.Arrays;
import java.util.Comparator;
import java.util.List;

/**
 * For each sentence of DOC.md that names a boundary case a test of its own, which names the sentence (Says). The
 * words that are named have to stand in the document, and no clause of it may be left out.
 */
public final class BoundaryTests extends Checks {
    private static final Class<?>[] TESTS = {TermsBoundaries.class, ChangeBoundaries.class, TellingBoundaries.class,
        TextBoundaries.class, HistoryBoundaries.class, UnclearWords.class};

    /** FaceTest holds the class to the one, and the other promises nothing. */
    private static final List<String> LEFT_OUT = List.of("The public face", "Not promised");

    /** Beginnings of the clauses that name no boundary case: they tell what the words behind or under them are about. */
    private static final List<String> NO_BOUNDARY = List.of("Tally of applause with claps decayed", "CONVENTIONS.",
        "Times are told in seconds.", "(In parentheses: range;", "Seats, pieces", "Orders are told by a text:",
        "Ahead of the calls `", "`int of(int seat, int what)`: Returns something about a seat.",
        "`int performer(int performer, int what)`: Returns something about a performer.",
        "`int owed(int rank, int what)`: Returns something about an encore that is owed, in their order.",
        "`int record(int rank, int what)`: Returns something of the record of a night that ended.",
        "`int count(int what)`: Returns a number.");

    private BoundaryTests() {
    }

    private static void complain(String what) {
        wrong++;
        System.out.println(what);
    }

    private static void run(Method test, Document document) throws ReflectiveOperationException {
        StringBuilder says = new StringBuilder(test.getName());
        for (Says one : test.getAnnotationsByType(Says.class)) {
            for (String words : one.value()) {
                says.append(" (").append(one.in()).append(": ").append(words).append(")");
                if (!document.names(one.in(), words)) {
                    complain(test.getName() + ": not in DOC.md under " + one.in() + ": " + words);
                }
            }
        }
        place = says.toString();
        int before = right + wrong;
        try {
            test.invoke(null);
        } catch (InvocationTargetException thrown) {
            complain(place + ": threw " + thrown.getCause());
        }
        if (right + wrong == before) {
            complain(test.getName() + " checks nothing");
        }
    }

    private static void leaveNothingOut(Document document) {
        for (String heading : document.headings()) {
            for (String clause : document.leftOut(heading)) {
                if (!LEFT_OUT.contains(heading) && NO_BOUNDARY.stream().noneMatch(clause::startsWith)) {
                    complain("no test names the words of DOC.md under " + heading + ": " + clause);
                }
            }
        }
    }

    public static void main(String[] args) throws IOException, ReflectiveOperationException {
        Document document = new Document(Path.of("../shared/DOC.md"));
        int tests = 0;
        for (Class<?> some : TESTS) {
            Method[] methods = some.getDeclaredMethods();
            Arrays.sort(methods, Comparator.comparing(Method::getName));
            for (Method method : methods) {
                if (method.getAnnotationsByType(Says.class).length > 0) {
                    run(method, document);
                    tests++;
                }
            }
        }
        leaveNothingOut(document);
        System.out.println(right + " checks of " + tests + " boundary cases right, " + wrong + " wrong");
        if (wrong != 0) {
            System.exit(1);
        }
    }
}
