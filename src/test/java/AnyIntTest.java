import java.lang.reflect.InvocationTargetException;
import java.lang.reflect.Method;
import java.lang.reflect.Modifier;
import java.util.Arrays;
import java.util.Comparator;

/** Any int as an argument, in any state: no call throws, each ends, and answers as the model does. */
public final class AnyIntTest {
    private static final int MAX = Integer.MAX_VALUE, MIN = Integer.MIN_VALUE;
    /** Bounds of the document, one to each side, bits alone, and the ends of int. */
    private static final int[] MANY = {MIN, MIN + 1, MIN + 2, -1000003, -1000000, -65536, -256, -41, -21, -20, -2, -1, 0,
        1, 2, 3, 5, 6, 7, 8, 9, 10, 11, 12, 13, 16, 20, 21, 24, 25, 39, 40, 41, 59, 60, 61, 63, 64, 100, 127, 128, 255,
        256, 999, 1000, 32767, 32768, 65536, 999999, 1000000, 1 << 30, MAX - 40, MAX - 7, MAX - 1, MAX};
    private static final int[] SOME = {MIN, MIN + 1, -2, -1, 0, 1, 2, 5, 6, 8, 12, 13, 40, 41, 60, 61, 1 << 30, MAX - 1,
        MAX};
    private static final int[] FEW = {MIN, -1, 0, 1, 2, 8, 40, MAX};
    /** Three calls each, behind those that make the state: an object is used for 512 at most. */
    private static final int RENEWED_BEHIND = 80, STATES = 5;

    private static DoorBell bell;
    private static Model model;
    private static int called = 0, state = 0;
    private static long seen = 0;
    private static int wrong = 0;

    public static void main(String[] args) throws ReflectiveOperationException {
        Method[] calls = DoorBell.class.getDeclaredMethods();
        Arrays.sort(calls, Comparator.comparing(Method::getName));
        for (state = 0; state < STATES; state++) {
            for (Method call : calls) {
                boolean isOfFace = Modifier.isPublic(call.getModifiers());
                boolean isField = call.getName().equals("status") || call.getName().equals("fault");
                if (isOfFace && !isField && wrong < 20) {
                    renew();
                    all(call, Model.class.getDeclaredMethod(call.getName(), call.getParameterTypes()));
                }
            }
        }
        System.out.println(wrong == 0 ? seen + " answers are as due" : wrong + " answers are not as due");
        if (wrong != 0) {
            System.exit(1);
        }
    }

    private static void all(Method call, Method due) throws ReflectiveOperationException {
        int takes = call.getParameterCount();
        int[] from = takes <= 2 ? MANY : takes <= 4 ? SOME : FEW;
        int ways = 1;
        for (int k = 0; k < takes; k++) {
            ways *= from.length;
        }
        for (int way = 0; way < ways && wrong < 20; way++) {
            Object[] numbers = new Object[takes];
            int rest = way;
            for (int k = 0; k < takes; k++) {
                numbers[k] = from[rest % from.length];
                rest /= from.length;
            }
            one(call, due, numbers);
        }
    }

    private static void one(Method call, Method due, Object[] numbers) throws ReflectiveOperationException {
        if (called >= RENEWED_BEHIND) {
            renew();
        }
        called++;
        seen++;
        long want = ((Number) due.invoke(model, numbers)).longValue();
        String told = "state " + state + ": " + call.getName() + Arrays.toString(numbers);
        try {
            long got = ((Number) call.invoke(bell, numbers)).longValue();
            need(told, got, want);
        } catch (InvocationTargetException thrown) {
            wrong++;
            System.out.println("AnyIntTest: " + told + " threw " + thrown.getCause());
        }
        need(told + ", status", bell.status(), model.status);
        need(told + ", fault", bell.fault(), model.fault);
    }

    private static void need(String what, long got, long want) {
        if (got != want) {
            wrong++;
            System.out.println("AnyIntTest: " + what + " answered " + got + ", the model " + want);
        }
    }

    // ---- states: nothing yet, a street alone, in the midst, full of callers, at the last day

    private static void renew() {
        bell = new DoorBell();
        model = new Model();
        called = 0;
        if (state == 1) {
            tell("g60,12;d1;");
        } else if (state == 2) {
            layRows();
            tell("g9,5;d5;d3;d9;u0,4;l1,2;b2,5;p1,6;k0,9;");
            lay();
        } else if (state == 3) {
            layRows();
            tell("g60,12;d20;d1;d20;d1;d5;d5;b0,20;k1,20;l2,20;u3,20;p4,20;u5,0;");
            lay();
            feed("g60,12;d20;d20;d20;d20;d20;d20;u0,20;u0,20;u0,20;u0,20;u0,20;u0,20;u0,20;u0,20;u0,20;u0,20;u0,20;");
        } else if (state == 4) {
            tell("g3,2;d5;d3;u0,4;l1,2;");
            for (int k = 0; k < 41; k++) {
                need("days", bell.days(24), model.days(24));
            }
            need("days", bell.days(14), model.days(14));
            lay();
        }
    }

    private static void feed(String text) {
        for (int i = 0; i < text.length(); i++) {
            need("feed", bell.feed(text.charAt(i)), model.feed(text.charAt(i)));
        }
    }

    private static void tell(String text) {
        feed(text);
        need("street", bell.street(), model.street());
    }

    private static void layRows() {
        for (int row = 0; row < 7; row++) {
            int size = row == 3 ? 0 : 8 * row % 41;
            need("row", bell.row(row, row % 3, size), model.row(row, row % 3, size));
        }
        for (int i = 0; i < 40; i++) {
            need("set", bell.set(5, i, i % 3 - 1), model.set(5, i, i % 3 - 1));
        }
    }

    private static void lay() {
        need("stretch", bell.stretch(0, 2), model.stretch(0, 2));
        need("sound", bell.sound(1, 1, 1), model.sound(1, 1, 1));
        need("sound", bell.sound(0, 0, 1), model.sound(0, 0, 1));
        need("image", bell.image(1), model.image(1));
        need("days", bell.days(1), model.days(1));
        need("ask", bell.ask(1, 0), model.ask(1, 0));
    }
}
