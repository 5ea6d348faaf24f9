/** Promises 29 to 32: KINDS, ASKS and THE TRACE. */
public final class AskedTest {
    private static final Check C = new Check("AskedTest");

    public static void main(String[] args) {
        kinds();
        asksOfAll();
        traceStays();
        C.end();
    }

    private static DoorBell five() {
        return Check.told("g9,9;d9;d9;d9;u2,7;l1,8;b2,3;p0,6;k1,5;");
    }

    private static void kinds() {
        DoorBell b = five();
        int[] are = {0b000011, 0b000111, 0b001011, 0b010001, 0b110001};
        for (int one = 0; one < 5; one++) {
            C.due("29: kind of " + one, b.kind(one), one + 1);
            for (int kind = 0; kind <= 5; kind++) {
                boolean is = (are[one] >> kind & 1) == 1;
                C.due("30: " + one + " as " + kind, b.as(one, kind), is ? one : Check.KIND);
            }
        }
        C.due("29: 5", b.kind(5), Check.BAD);
        C.due("29: -1", b.kind(-1), Check.BAD);
        C.due("30: caller 5", b.as(5, 0), Check.BAD);
        C.due("30: caller -1", b.as(-1, 0), Check.BAD);
        C.due("30: kind 6", b.as(0, 6), Check.BAD);
        C.due("30: kind -1", b.as(0, -1), Check.BAD);
    }

    private static void asksOfAll() {
        DoorBell b = five();
        dueAsk(b, 0, 0, 7 + (0 + 2), 11, 10, 21, 20);
        dueAsk(b, 0, 1, 0 + 2, 21, 20);
        dueAsk(b, 1, 0, -(8 + 2 * (1 + 1)), 12, 11, 10, 24, 21, 20);
        dueAsk(b, 1, 1, 2 * (1 + 1), 24, 21, 20);
        dueAsk(b, 2, 0, 3 + (2 + 2 - 1000), 11, 10, 22, 21, 20);
        dueAsk(b, 2, 1, 2 + 2 - 1000, 22, 21, 20);
        dueAsk(b, 3, 0, 6 - 100, 13, 10);
        dueAsk(b, 3, 1, 3 - (6 - 100), 23, 20, 13, 10);
        dueAsk(b, 4, 0, 2 * (5 - 100), 14, 13, 10);
        dueAsk(b, 4, 1, 4 - 2 * (5 - 100), 23, 20, 14, 13, 10);
        b.days(1);
        dueAsk(b, 1, 1, 2 * (1 + 2), 24, 21, 20);
    }

    private static void dueAsk(DoorBell b, int one, int what, int want, int... bodies) {
        C.due("31: ask " + what + " of " + one, b.ask(one, what), want);
        C.dueAll("32: trace of " + what + " of " + one, Check.traced(b), bodies);
    }

    private static void traceStays() {
        DoorBell b = five();
        C.due("32: empty", b.trace(0), Check.NONE);
        b.ask(3, 0);
        C.due("31: caller 5", b.ask(5, 0), Check.BAD);
        C.due("31: caller -1", b.ask(-1, 0), Check.BAD);
        C.due("31: what 2", b.ask(0, 2), Check.BAD);
        C.due("31: what -1", b.ask(0, -1), Check.BAD);
        C.dueAll("32: refused, it stays", Check.traced(b), 13, 10);
        C.due("32: -1", b.trace(-1), Check.NONE);
        C.due("32: 2", b.trace(2), Check.NONE);
        C.due("32: 16", b.trace(16), Check.NONE);
        C.due("32: MAX", b.trace(Integer.MAX_VALUE), Check.NONE);
        C.due("32: MIN", b.trace(Integer.MIN_VALUE), Check.NONE);
        Check.read(b, "g1,1;d1;");
        b.days(1);
        C.dueAll("32: other calls leave it", Check.traced(b), 13, 10);
    }
}
