/** Promises 1 and 6 to 8: a new object, THE TAPE, texts and FAULTS. */
public final class TextTest {
    private static final Check C = new Check("TextTest");
    private static final String SIX_DOORS = "g1,1;d1;d1;d1;d1;d1;d1;";

    public static void main(String[] args) {
        newObject();
        tapeFills();
        streetsAreRead();
        faults();
        aFaultLeavesAll();
        C.end();
    }

    private static void newObject() {
        DoorBell b = new DoorBell();
        for (int what = 0; what <= 8; what++) {
            C.due("1: count " + what, b.count(what), 0);
        }
        C.due("1: meets", b.meets(), Check.STATE);
        C.due("1: fault", b.fault(), 0);
        C.due("1: status", b.status(), 0);
        C.due("1: trace", b.trace(0), Check.NONE);
        C.due("1: undo", b.undo(), Check.STATE);
        C.due("1: restore", b.restore(0), Check.STATE);
        C.due("1: rows are missing", b.drop(0), Check.NULL);
    }

    private static void tapeFills() {
        DoorBell b = new DoorBell();
        C.due("6: -1", b.feed(-1), Check.BAD);
        C.due("6: 256", b.feed(256), Check.BAD);
        C.due("6: 0", b.feed(0), 1);
        C.due("6: 255", b.feed(255), 2);
        for (int i = 3; i <= 100; i++) {
            C.due("6: byte " + i, b.feed('a'), i);
        }
        C.due("6: FULL", b.feed('a'), Check.FULL);
        C.due("6: BAD ahead of FULL", b.feed(256), Check.BAD);
        C.due("6: bytes on the tape", b.count(8), 100);
        b.street();
        C.due("6: empty then", b.count(8), 0);
        C.due("6: from the first on", b.feed('g'), 1);
    }

    private static void streetsAreRead() {
        DoorBell b = new DoorBell();
        C.due("7: no callers", Check.read(b, "g0,0;d1;"), 0);
        C.due("7: most of all", Check.read(b, "g60,12;d20;d20;d20;d20;d20;d20;u5,20;l0,0;b1,1;p2,2;k3,3;u4,4;"), 6);
        C.due("7: doors", b.count(1), 6);
        C.due("7: seconds", b.count(3), 60);
        C.due("7: sounds", b.count(4), 12);
        C.due("7: zeros ahead", Check.read(b, "g09,03;d07;u00,08;"), 1);
        C.due("7: seconds", b.count(3), 9);
        C.due("7: sounds", b.count(4), 3);
        C.due("7: opens", b.door(0, 0), 7);
        C.due("7: patience", b.caller(0, 1), 8);
        b.stretch(0, 5);
        b.sound(0, 0, 1);
        b.days(3);
        C.due("7: acts", b.count(7), 5);
        C.due("7: met", b.caller(0, 4) + b.count(5), 3);
        C.due("7: anew", Check.read(b, "g09,03;d07;u00,08;"), 1);
        C.due("7: day 0", b.count(5), 0);
        C.due("7: no act", b.count(7), 0);
        C.due("7: none to undo", b.undo(), Check.STATE);
        C.due("7: no stretch", b.door(0, 1), 0);
        C.due("7: no cough", b.door(0, 2), 0);
        C.due("7: nobody has met", b.count(6), 0);
        leavesNothingBehind();
    }

    /** What is foretold may leave no mark on a street that is read behind it. */
    private static void leavesNothingBehind() {
        DoorBell b = Check.told("g60,12;d1;d1;u0,9;u1,9;");
        b.stretch(0, 5);
        b.sound(0, 0, 1);
        b.sound(1, 1, 1);
        b.days(3);
        b.drawn(5, 7, 0);
        b.sleeps(0, 5, 0);
        b.reaches(0, 1);
        Check.read(b, "g60,12;d1;d1;u0,9;u1,9;");
        C.due("7: day", b.count(5), 0);
        C.due("7: met", b.count(6), 0);
        C.due("7: seconds used", b.used(0), 0);
        C.due("7: sounds used", b.used(1), 0);
    }

    private static void faults() {
        fault("", 0, 1);
        fault("d", 0, 1);
        fault("G0,0;", 0, 1);
        fault("g", 1, 1);
        fault("gg", 1, 1);
        fault("g,", 1, 1);
        fault("g0;", 2, 1);
        fault("g60", 3, 1);
        fault("g61,", 1, 2);
        fault("g600,", 1, 1);
        fault("g001,", 1, 1);
        fault("g0001,", 1, 1);
        fault("g0,13;", 3, 2);
        fault("g0,12", 5, 1);
        fault("g0,0,", 4, 1);
        fault("g0,0;", 5, 1);
        fault("g0,0;g", 5, 1);
        fault("g0,0;7", 5, 1);
        fault("g0,0;777", 5, 1);
        fault("g0,0;u0,0;", 5, 1);
        fault("g0,0;d0;", 6, 2);
        fault("g0,0;d21;", 6, 2);
        fault("g0,0;d21", 6, 2);
        fault("g0,0;d100;", 6, 1);
        fault("g0,0;d1,", 7, 1);
        fault("g0,0;d1;d", 9, 1);
        fault("g0,0;d1;x", 8, 1);
        fault("g0,0;d1;g", 8, 1);
        fault("g0,0;d1;;", 8, 1);
        fault("g0,0;d1; ", 8, 1);
        fault("g0,0;d1;u", 9, 1);
        fault("g0,0;d1;u1,99", 9, 2);
        fault("g0,0;d1;u0;", 10, 1);
        fault("g0,0;d1;u0,", 11, 1);
        fault("g0,0;d1;u0,21;", 11, 2);
        fault("g0,0;d1;u0,020;", 11, 1);
        fault("g0,0;d1;u0,20", 13, 1);
        fault("g0,0;d1;u0,0,", 12, 1);
        fault("g0,0;d1;u0,0;d1;", 13, 1);
        fault(SIX_DOORS + "d1;", 23, 3);
        fault(SIX_DOORS + "d", 23, 3);
        fault(SIX_DOORS + "u6,0;", 24, 2);
        fault(SIX_DOORS + "a", 23, 1);
        String sixCallers = SIX_DOORS + "u5,0;l5,0;b5,0;p5,0;k5,0;u5,0;";
        fault(sixCallers + "u0,0;", 53, 3);
        fault(sixCallers + "k", 53, 3);
        fault(sixCallers + "d", 53, 1);
        fault(sixCallers + "z", 53, 1);
        fault("g0,0" + (char) 200, 4, 1);
    }

    private static void fault(String text, int place, int number) {
        DoorBell b = new DoorBell();
        C.due("7: " + text, Check.read(b, text), -1000100 - place);
        C.due("8: " + text, b.fault(), number);
        C.due("7: tape behind " + text, b.count(8), 0);
        C.due("7: no street by " + text, b.meets(), Check.STATE);
    }

    private static void aFaultLeavesAll() {
        DoorBell b = Check.told("g9,9;d5;d6;u0,5;l1,2;");
        b.stretch(1, 4);
        b.days(1);
        C.due("7: a fault", Check.read(b, "g1,1;d9;d9;d9;u2,9;u3,1;"), -1000100 - 20);
        C.due("8: fault", b.fault(), 2);
        C.due("7: doors stay", b.count(1), 2);
        C.due("7: callers stay", b.count(2), 2);
        C.due("7: day stays", b.count(5), 1);
        C.due("7: acts stay", b.count(7), 2);
        C.due("7: seconds stay", b.count(3), 9);
        C.due("7: stretch stays", b.door(1, 1), 4);
        C.due("7: opens stays", b.door(1, 0), 6);
        C.due("7: patience stays", b.caller(1, 1), 2);
        C.due("8: a good one", Check.read(b, "g1,1;d9;"), 0);
        C.due("8: the latest fault stays", b.fault(), 2);
        Check.read(b, "q");
        C.due("8: a later one", b.fault(), 1);
        String whole = "g11,11;d11;d11;u01,11;";
        for (int n = 0; n < whole.length(); n++) {
            boolean isWhole = n == 11 || n == 15;
            int due = isWhole ? 0 : -1000100 - n;
            b = new DoorBell();
            C.due("7: the whole", Check.read(b, whole), 1);
            C.due("7: of a longer text on the tape before only " + n, Check.read(b, whole.substring(0, n)), due);
        }
    }
}
