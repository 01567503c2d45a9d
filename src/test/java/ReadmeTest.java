import java.io.IOException;
import java.lang.reflect.Method;
import java.lang.reflect.Modifier;
import java.nio.file.Files;
import java.nio.file.Path;

/** That README.md tells the truth: its example answers as its comments say, and no call is left out. */
public final class ReadmeTest {
    private static final int NONE = IndexDesk.NONE;

    private static String readme;

    private ReadmeTest() {
    }

    public static void main(String[] args) throws IOException {
        readme = Files.readString(Path.of("README.md"));
        example();
        everyCallStands();
        everyTestStands();
        Check.finish();
    }

    private static void example() {
        IndexDesk desk = new IndexDesk();
        told("desk.table(0, 2, 4);", "true", desk.table(0, 2, 4));
        for (int r = 0; r < 40; r++) {
            Check.due("put of row " + r, desk.put(0, r % 5, r, 0, 0), r);
        }
        told("desk.recount(0);", "40", desk.recount(0));
        told("desk.changes(0, 2);", "true", desk.changes(0, 2));
        int q = desk.question(0, 3, NONE, 10);
        told("int q = desk.question(0, 3, IndexDesk.NONE, 10);", "0", q);
        told("desk.test(q, 1, 7, 7);", "true", desk.test(q, 1, 7, 7));
        int a = desk.order(0, 0, 1, NONE, NONE, 0);
        told("int a = desk.order(0, 0, 1, IndexDesk.NONE, IndexDesk.NONE, 0);", "0", a);
        told("desk.cost(q, IndexDesk.NONE);", "10", desk.cost(q, NONE));
        told("desk.cost(q, a);", "3", desk.cost(q, a));
        told("desk.total(1);", "34", desk.total(1));
        told("desk.look(a, 4);", "66", desk.look(a, 4));
        told("desk.choose(4);", "0", desk.choose(4));
        told("desk.choose(5);", "1", desk.choose(5));
        told("desk.build(a, true);", "true", desk.build(a, true));
        told("desk.plan(q);", "0", desk.plan(q));
        told("desk.run(q, 2);", "3", desk.run(q, 2));
        told("desk.run(q, 3);", "3", desk.run(q, 3));
    }

    /** The call stands in the example, what is told behind it there is the answer, and so did the desk answer. */
    private static void told(String call, String answer, Object got) {
        Check.due(call, String.valueOf(got), answer);
        String line = readme.lines().filter(one -> one.startsWith(call)).findFirst().orElse("no such line");
        String comment = line.replaceFirst("^.*// ", "").replaceFirst(":.*$", "");
        Check.due("README's answer of " + call, comment, answer);
    }

    private static void everyCallStands() {
        for (Method method : IndexDesk.class.getDeclaredMethods()) {
            if (Modifier.isPublic(method.getModifiers())) {
                boolean stands = readme.contains("| `" + method.getName() + "(");
                Check.due("README has " + method.getName(), stands, true);
            }
        }
    }

    private static void everyTestStands() throws IOException {
        try (var files = Files.list(Path.of("src/test/java"))) {
            for (Path file : files.sorted().toList()) {
                String name = file.getFileName().toString().replace(".java", "");
                boolean stands = !name.endsWith("Test") || readme.contains("| `" + name + "` |");
                Check.due("README has " + name, stands, true);
            }
        }
    }
}
