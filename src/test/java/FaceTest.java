import java.io.IOException;
import java.lang.reflect.Field;
import java.lang.reflect.Method;
import java.lang.reflect.Modifier;
import java.nio.file.Files;
import java.nio.file.Path;
import java.util.ArrayList;
import java.util.Arrays;
import java.util.List;
import java.util.Set;
import java.util.TreeSet;
import java.util.regex.Pattern;

/** The public face, member by member, and those rules of LANGUAGE.md that can be seen from outside. */
public final class FaceTest {
    private static final String[] FACE = {"row 3", "set 3", "copy 5", "drop 1", "feed 1", "street 0", "fault 0",
        "undo 0", "stretch 2", "sound 3", "days 1", "door 2", "caller 2", "used 1", "meets 0", "nothing 0", "ahead 3",
        "soon 1", "least 3", "whichDoor 2", "who 4", "sleeps 3", "reaches 2", "rather 3", "drawn 3", "image 1",
        "restore 1", "kind 1", "as 2", "ask 2", "trace 1", "count 1", "status 0"};
    private static final Path SOURCE = Path.of("src/main/java/DoorBell.java");

    private static final List<String> wrong = new ArrayList<>();

    public static void main(String[] args) throws IOException {
        face();
        constants();
        classesInside();
        source();
        wrong.forEach(System.out::println);
        System.out.println(wrong.isEmpty() ? "the face is as due" : wrong.size() + " are not as due");
        if (!wrong.isEmpty()) {
            System.exit(1);
        }
    }

    private static void need(boolean holds, String what) {
        if (!holds) {
            wrong.add("FaceTest: " + what);
        }
    }

    private static void face() {
        Set<String> seen = new TreeSet<>();
        Set<String> names = new TreeSet<>();
        for (Method m : DoorBell.class.getDeclaredMethods()) {
            if (Modifier.isPrivate(m.getModifiers()) || m.isSynthetic()) {
                continue;
            }
            need(Modifier.isPublic(m.getModifiers()), m + " is visible");
            need(!Modifier.isStatic(m.getModifiers()), m + " is static");
            need(m.getReturnType() == (m.getName().equals("sleeps") ? long.class : int.class), m + " gives");
            need(Arrays.stream(m.getParameterTypes()).allMatch(t -> t == int.class), m + " takes");
            seen.add(m.getName() + " " + m.getParameterCount());
            names.add(m.getName());
        }
        need(seen.equals(new TreeSet<>(Arrays.asList(FACE))), "the methods are " + seen);
        for (Class<?> c : all()) {
            for (Method m : c.getDeclaredMethods()) {
                boolean isOfFace = c == DoorBell.class && Modifier.isPublic(m.getModifiers());
                need(isOfFace || !names.contains(m.getName()), c + " has a method " + m.getName());
                need(m.getParameterCount() <= 7, m + " takes more than seven");
            }
        }
        need(DoorBell.class.getConstructors().length == 1, "constructors");
        int kind = DoorBell.class.getModifiers();
        need(Modifier.isFinal(kind) && Modifier.isPublic(kind), "the class is public and final");
    }

    private static void constants() {
        Set<String> seen = new TreeSet<>();
        for (Field f : DoorBell.class.getDeclaredFields()) {
            if (!Modifier.isPrivate(f.getModifiers()) && !f.isSynthetic()) {
                seen.add(f.getName());
            }
        }
        need(seen.equals(new TreeSet<>(List.of("NONE", "BAD", "STATE", "FULL"))), "the constants are " + seen);
        need(DoorBell.NONE == -1000000 && DoorBell.BAD == -1000001, "NONE, BAD");
        need(DoorBell.STATE == -1000002 && DoorBell.FULL == -1000003, "STATE, FULL");
    }

    private static List<Class<?>> all() {
        List<Class<?>> classes = new ArrayList<>(List.of(DoorBell.class));
        classes.addAll(Arrays.asList(DoorBell.class.getDeclaredClasses()));
        return classes;
    }

    private static void classesInside() {
        need(all().size() <= 12, "there are " + all().size() + " classes");
        for (Class<?> c : all()) {
            boolean isInside = c != DoorBell.class;
            need(!isInside || Modifier.isStatic(c.getModifiers()), c + " is not static");
            need(!isInside || !Modifier.isPublic(c.getModifiers()), c + " is public");
            int fields = 0;
            for (Field f : c.getDeclaredFields()) {
                boolean isStatic = Modifier.isStatic(f.getModifiers());
                need(!isStatic || Modifier.isFinal(f.getModifiers()), f + " is static and not final");
                fields += isStatic ? 0 : 1;
            }
            need(fields <= 20, c + " has " + fields + " fields");
        }
    }

    private static void source() throws IOException {
        String text = Files.readString(SOURCE);
        String bare = text.replaceAll("(?s)/\\*.*?\\*/", "").replaceAll("//[^\n]*", "");
        for (String word : List.of("throw", "throws", "try", "catch", "synchronized", "assert", "package", "import",
                "while", "Exact")) {
            need(!Pattern.compile("\\b" + word + "\\b").matcher(bare).find(), "the source has " + word);
        }
        need(!bare.contains("->") && !bare.contains("::"), "the source has a lambda or a method reference");
        need(text.chars().allMatch(c -> c == '\n' || c >= 32 && c < 127), "the source has other signs");
        longMethods(bare);
    }

    private static void longMethods(String bare) {
        int begun = 0;
        String[] lines = bare.split("\n");
        for (int i = 0; i < lines.length; i++) {
            if (lines[i].matches(" {4,8}\\S.*\\) \\{")) {
                begun = i;
            }
            if (lines[i].matches(" {4,8}\\}")) {
                need(i - begun <= 60 || lines[i].startsWith("    }"), "a method ends long behind line " + begun);
            }
        }
    }
}
