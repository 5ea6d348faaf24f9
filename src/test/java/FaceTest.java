import java.io.IOException;
import java.lang.reflect.Field;
import java.lang.reflect.Method;
import java.lang.reflect.Modifier;
import java.nio.file.Files;
import java.nio.file.Path;
import java.util.ArrayList;
import java.util.Arrays;
import java.util.List;
import java.util.Set;
import java.util.TreeSet;
import java.util.regex.Matcher;
import java.util.regex.Pattern;

/** The public face: member by member, and line by line as the document has it. */
public final class FaceTest {
    private static final Check C = new Check("FaceTest");
    private static final String[] FACE = {"row 3", "set 3", "copy 5", "drop 1", "feed 1", "street 0", "fault 0",
        "undo 0", "stretch 2", "sound 3", "days 1", "door 2", "caller 2", "used 1", "meets 0", "nothing 0", "ahead 3",
        "soon 1", "least 3", "whichDoor 2", "who 4", "sleeps 3", "reaches 2", "rather 3", "drawn 3", "image 1",
        "restore 1", "kind 1", "as 2", "ask 2", "trace 1", "count 1", "status 0"};
    private static final Path SOURCE = Path.of("src/main/java/DoorBell.java");
    private static final Path DOCUMENT = Path.of("../shared/DOC.md");
    private static final Pattern SECTION = Pattern.compile("Ahead of the calls (.*) the interface says: ---- (.*)\\.");

    public static void main(String[] args) throws IOException {
        methods();
        constants();
        theClass();
        asTheDocumentHasIt();
        sections();
        promisesTellTheFace();
        C.end();
    }

    private static void need(boolean holds, String what) {
        C.due(what, holds ? 1 : 0, 1);
    }

    private static void methods() {
        Set<String> seen = new TreeSet<>();
        for (Method m : DoorBell.class.getDeclaredMethods()) {
            if (Modifier.isPrivate(m.getModifiers()) || m.isSynthetic()) {
                continue;
            }
            need(Modifier.isPublic(m.getModifiers()), m + " is public");
            need(!Modifier.isStatic(m.getModifiers()), m + " is of an object");
            need(m.getReturnType() == (m.getName().equals("sleeps") ? long.class : int.class), m + " gives");
            need(Arrays.stream(m.getParameterTypes()).allMatch(t -> t == int.class), m + " takes");
            need(m.getExceptionTypes().length == 0, m + " throws nothing");
            seen.add(m.getName() + " " + m.getParameterCount());
        }
        need(seen.equals(new TreeSet<>(Arrays.asList(FACE))), "the methods are " + seen);
    }

    private static void constants() {
        Set<String> seen = new TreeSet<>();
        for (Field f : DoorBell.class.getDeclaredFields()) {
            if (!Modifier.isPrivate(f.getModifiers()) && !f.isSynthetic()) {
                seen.add(f.getName());
                need(f.getType() == int.class && Modifier.isFinal(f.getModifiers()), f + " is a constant");
            }
        }
        need(seen.equals(new TreeSet<>(List.of("NONE", "BAD", "STATE", "FULL"))), "the constants are " + seen);
        C.due("NONE", DoorBell.NONE, -1000000);
        C.due("BAD", DoorBell.BAD, -1000001);
        C.due("STATE", DoorBell.STATE, -1000002);
        C.due("FULL", DoorBell.FULL, -1000003);
    }

    private static void theClass() {
        int kind = DoorBell.class.getModifiers();
        need(Modifier.isFinal(kind) && Modifier.isPublic(kind), "the class is public and final");
        C.due("constructors", DoorBell.class.getDeclaredConstructors().length, 1);
        C.due("public constructors", DoorBell.class.getConstructors().length, 1);
        C.due("what it takes", DoorBell.class.getConstructors()[0].getParameterCount(), 0);
        need(DoorBell.class.getSuperclass() == Object.class, "it is under no other class");
        need(DoorBell.class.getPackageName().isEmpty(), "it is in no package");
    }

    // ---- beside the document

    /** Of a text all that begins as a public member does, in order, up to what a body or a semicolon follows. */
    private static List<String> publicLines(String text) {
        List<String> lines = new ArrayList<>();
        Matcher line = Pattern.compile("(?m)^ *(public .*?) ?[;{]$").matcher(text);
        while (line.find()) {
            lines.add(line.group(1));
        }
        return lines;
    }

    private static void asTheDocumentHasIt() throws IOException {
        String document = Files.readString(DOCUMENT);
        int begin = document.indexOf("```java");
        String face = document.substring(begin, document.indexOf("```", begin + 3));
        List<String> due = publicLines(face);
        List<String> got = publicLines(Files.readString(SOURCE));
        C.due("public lines", got.size(), due.size());
        C.due("of them", due.size(), 1 + 1 + 1 + FACE.length);
        for (int k = 0; k < Math.min(got.size(), due.size()); k++) {
            need(got.get(k).equals(due.get(k)), got.get(k) + " is told as " + due.get(k));
        }
    }

    private static void sections() throws IOException {
        String source = Files.readString(SOURCE);
        Matcher section = SECTION.matcher(Files.readString(DOCUMENT));
        int at = 0;
        int seen = 0;
        while (section.find()) {
            int begun = source.indexOf("// ---- " + section.group(2) + "\n");
            need(begun > at, section.group(2) + " stands behind what is ahead of it");
            at = begun;
            for (String name : section.group(1).replace("`", "").split(", ")) {
                int call = source.indexOf(" " + name + "(", begun);
                need(call > at && !source.substring(at + 3, call).contains("// ----"), name + " stands there");
                at = call;
                seen++;
            }
        }
        C.due("calls in sections", seen, FACE.length);
    }

    /** Promises 2 to 34 tell the calls of the face once more, each in the face's words. */
    private static void promisesTellTheFace() throws IOException {
        List<String> got = publicLines(Files.readString(SOURCE));
        Matcher promise = Pattern.compile("(?m)^`((?:int|long) .*?\\))`:").matcher(Files.readString(DOCUMENT));
        int seen = 0;
        while (promise.find()) {
            need(got.contains("public " + promise.group(1)), promise.group(1) + " is there");
            seen++;
        }
        C.due("promises with a call", seen, FACE.length);
    }
}
