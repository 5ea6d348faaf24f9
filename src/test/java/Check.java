import java.util.ArrayList;
import java.util.List;

/** What the tests share: answers that are due, and streets told by a text. */
final class Check {
    /** A call, or several, on an object: what it answers. */
    interface Call {
        long of(DoorBell bell);
    }

    static final int MAX = Integer.MAX_VALUE, MIN = Integer.MIN_VALUE;
    static final int NULL = -1000011, PLACE = -1000012, KIND = -1000013, SIZE = -1000014, STORE = -1000015;
    static final int NONE = DoorBell.NONE, BAD = DoorBell.BAD, STATE = DoorBell.STATE, FULL = DoorBell.FULL;

    private final String name;
    private int seen = 0;
    private int wrong = 0;

    Check(String name) {
        this.name = name;
    }

    void due(String call, long got, long want) {
        seen++;
        if (got != want) {
            wrong++;
            System.out.println(name + ": " + call + " answered " + got + ", due is " + want);
        }
    }

    void dueAll(String call, int[] got, int... want) {
        due(call + " length", got.length, want.length);
        for (int i = 0; i < Math.min(got.length, want.length); i++) {
            due(call + "[" + i + "]", got[i], want[i]);
        }
    }

    void end() {
        System.out.println(wrong == 0 ? seen + " answers are as due" : wrong + " of " + seen + " answers are not as due");
        if (wrong != 0) {
            System.exit(1);
        }
    }

    static void feed(DoorBell bell, String text) {
        for (int i = 0; i < text.length(); i++) {
            bell.feed(text.charAt(i));
        }
    }

    static int read(DoorBell bell, String text) {
        feed(bell, text);
        return bell.street();
    }

    static DoorBell told(String text) {
        DoorBell bell = new DoorBell();
        if (read(bell, text) < 0) {
            throw new IllegalArgumentException("no street: " + text);
        }
        return bell;
    }

    static void fill(DoorBell bell, int row, int lane, int... items) {
        bell.row(row, lane, items.length);
        for (int i = 0; i < items.length; i++) {
            bell.set(row, i, items[i]);
        }
    }

    static int[] traced(DoorBell bell) {
        int n = 0;
        while (bell.trace(n) != NONE) {
            n++;
        }
        int[] numbers = new int[n];
        for (int i = 0; i < n; i++) {
            numbers[i] = bell.trace(i);
        }
        return numbers;
    }

    /** All that can be looked at without a change; status() stands apart, since it alone may change. */
    static List<Long> seen(DoorBell b) {
        List<Long> all = new ArrayList<>();
        for (int what = 0; what <= 8; what++) {
            all.add((long) b.count(what));
        }
        for (int door = 0; door < b.count(1); door++) {
            for (int what = 0; what <= 6; what++) {
                all.add((long) b.door(door, what));
            }
        }
        for (int one = 0; one < b.count(2); one++) {
            for (int what = 0; what <= 4; what++) {
                all.add((long) b.caller(one, what));
            }
            all.add((long) b.kind(one));
        }
        all.add((long) b.used(0));
        all.add((long) b.used(1));
        all.add((long) b.fault());
        for (int i = 0; i <= 16; i++) {
            all.add((long) b.trace(i));
        }
        return all;
    }
}
