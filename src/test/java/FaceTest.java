import java.io.IOException;
import java.lang.reflect.Constructor;
import java.lang.reflect.Field;
import java.lang.reflect.Method;
import java.lang.reflect.Modifier;
import java.nio.file.Files;
import java.nio.file.Path;
import java.util.Set;
import java.util.TreeSet;
import java.util.regex.Matcher;
import java.util.regex.Pattern;

/** "The public face": what the document writes there, and nothing beside it. */
public final class FaceTest {
    private static final Path DOCUMENT = Path.of("..", "shared", "DOC.md");
    private static final Path SOURCE = Path.of("src", "main", "java", "LinePool.java");
    private static final Pattern FACE = Pattern.compile("## The public face\\s+```java\n(.*?)```", Pattern.DOTALL);
    private static final Pattern METHOD = Pattern.compile("public (\\w+ \\w+)\\(([^)]*)\\)( throws (\\w+))?;");
    /** How many the document writes, lest a face that was not found pass for one that is kept. */
    private static final int METHODS = 16;
    private static final String COUNTS = "// ---- counts";

    private final Check check = new Check("FaceTest");

    private FaceTest() {
    }

    public static void main(String[] args) throws IOException {
        FaceTest test = new FaceTest();
        String document = Files.readString(DOCUMENT);
        test.compareMethods(document);
        test.lookAtTheRest();
        test.lookForCounts(document, Files.readString(SOURCE));
        test.check.end();
    }

    private void compareMethods(String document) {
        Set<String> due = new TreeSet<>();
        Matcher face = FACE.matcher(document);
        check.due("whether the document has a face", face.find(), true);
        Matcher method = METHOD.matcher(face.group(1));
        while (method.find()) {
            String types = method.group(2).replaceAll("(\\w+) \\w+", "$1").replace(", ", ",");
            String thrown = method.group(4) == null ? "" : " throws java.util." + method.group(4);
            due.add(method.group(1) + "(" + types + ")" + thrown);
        }
        check.due("methods of the document", due.size(), METHODS);

        Set<String> there = new TreeSet<>();
        Set<String> openNames = new TreeSet<>();
        for (Method m : LinePool.class.getDeclaredMethods()) {
            if (!Modifier.isPrivate(m.getModifiers())) {
                there.add(m.toGenericString().replace("public ", "").replace("LinePool.", ""));
                openNames.add(m.getName());
            }
        }
        check.due("whether the methods " + there + " are " + due, there.equals(due), true);
        for (Method m : LinePool.class.getDeclaredMethods()) {
            if (Modifier.isPrivate(m.getModifiers())) {
                check.due("private " + m.getName(), openNames.contains(m.getName()), false);
            }
        }
    }

    private void lookAtTheRest() {
        check.due("public and final", LinePool.class.getModifiers(), Modifier.PUBLIC | Modifier.FINAL);
        check.due("NONE", LinePool.NONE, -1);
        for (Field f : LinePool.class.getDeclaredFields()) {
            boolean open = f.getName().equals("NONE");
            check.due("public " + f.getName(), Modifier.isPublic(f.getModifiers()), open);
            check.due("private " + f.getName(), Modifier.isPrivate(f.getModifiers()), !open);
            check.due("final " + f.getName(), Modifier.isFinal(f.getModifiers()), true);
        }
        Constructor<?>[] makers = LinePool.class.getDeclaredConstructors();
        check.due("constructors", makers.length, 1);
        check.due("constructor's modifiers", makers[0].getModifiers(), Modifier.PUBLIC);
        check.due("constructor's parameters", makers[0].getParameterCount(), 0);
        check.due("constructor's exceptions", makers[0].getExceptionTypes().length, 0);
    }

    /** Terms 3: "Ahead of the calls mean, best, crowd, scatter, states, sure the interface says: ---- counts." */
    private void lookForCounts(String document, String source) {
        String sentence = "Ahead of the calls `mean`, `best`, `crowd`, `scatter`, `states`, `sure` the interface"
            + " says: ---- counts.";
        check.due("whether the document says where counts begin", document.contains(sentence), true);
        check.due("whether the class says it once", source.split(Pattern.quote(COUNTS), -1).length, 2);
        int counts = source.indexOf(COUNTS);
        for (String call : new String[] {"mean", "best", "crowd", "scatter", "states", "sure"}) {
            check.due("whether " + call + " is behind it", source.indexOf(" " + call + "(") > counts, true);
        }
        for (String call : new String[] {"set", "speed", "caller", "broken", "run", "clear", "count", "slot",
            "told", "event"}) {
            int at = source.indexOf(" " + call + "(");
            check.due("whether " + call + " is ahead of it", at > 0 && at < counts, true);
        }
    }
}
