import java.util.ArrayList;
import java.util.List;
import java.util.function.Supplier;

/**
 * "What is refused, or found, changes nothing but status()": each refusal on one of two like objects, which are then
 * asked all there is to ask; and, of several refusals that fit, the first.
 */
public final class RefusedTest {
    private static final Check C = new Check("RefusedTest");
    private static final int LAST_FINDING = Check.STORE, FIRST_FINDING = Check.NULL;

    public static void main(String[] args) {
        twinsAreAlike();
        twinsShowAChange();
        rows();
        told();
        done();
        foretold();
        foretoldWithoutAStreet();
        asked();
        faults();
        statusBehindWhatIsNotRefused();
        C.end();
    }

    private static void twinsAreAlike() {
        dueAlike("twins without a street", Twins::withoutStreet, Twins::withoutStreet, 1);
        dueAlike("twins in the midst", Twins::inTheMidst, Twins::inTheMidst, 1);
        dueAlike("twins that are full", Twins::full, Twins::full, 1);
        dueAlike("others than these", Twins::full, Twins::inTheMidst, 0);
    }

    /** A test of the test: whatever is done, not refused, must show. */
    private static void twinsShowAChange() {
        Check.Call[] calls = {
            b -> b.row(5, 0, 0), b -> b.row(0, 0, 10), b -> b.row(1, 0, 8), b -> b.set(0, 9, 8), b -> b.set(4, 7, 20),
            b -> b.copy(0, 0, 0, 1, 1), b -> b.drop(2), b -> b.feed('g'), b -> b.street(), b -> b.undo(),
            b -> b.stretch(1, 1), b -> b.stretch(2, 1), b -> b.sound(1, 0, 1), b -> b.sound(0, 0, 0), b -> b.days(1),
            b -> b.image(0), b -> b.image(1), b -> b.restore(0), b -> b.ask(0, 0)
        };
        for (int k = 0; k < calls.length; k++) {
            C.due("not refused " + k, calls[k].of(Twins.inTheMidst()) >= -1000 ? 1 : 0, 1);
            dueAlike("a change is seen " + k, Twins.behind(Twins::inTheMidst, calls[k]), Twins::inTheMidst, 0);
        }
    }

    private static void dueAlike(String what, Supplier<DoorBell> one, Supplier<DoorBell> other, int due) {
        C.due(what, Twins.probe(one).equals(Twins.probe(other)) ? 1 : 0, due);
    }

    private static void refused(String what, Supplier<DoorBell> state, Check.Call call, long due) {
        DoorBell b = state.get();
        C.due(what, call.of(b), due);
        boolean isFinding = due <= FIRST_FINDING && due >= LAST_FINDING;
        C.due("34: behind " + what, b.status(), isFinding ? -1000010 - due : Twins.STATUS);
        dueAlike(what + " changes nothing", Twins.behind(state, call), state, 1);
        DoorBell twice = state.get();
        call.of(twice);
        C.due(what + ", once more", call.of(twice), due);
    }

    private static void inAll(String what, Check.Call call, long due) {
        refused(what + ", no street", Twins::withoutStreet, call, due);
        refused(what + ", in the midst", Twins::inTheMidst, call, due);
        refused(what + ", full", Twins::full, call, due);
    }

    private static void midst(String what, Check.Call call, long due) {
        refused(what, Twins::inTheMidst, call, due);
    }

    private static void atFull(String what, Check.Call call, long due) {
        refused(what + ", full", Twins::full, call, due);
    }

    private static void streetless(String what, Check.Call call, long due) {
        refused(what + ", no street", Twins::withoutStreet, call, due);
    }

    private static void rows() {
        inAll("2: row", b -> b.row(8, 0, 1), Check.BAD);
        inAll("2: row below", b -> b.row(-1, 0, 1), Check.BAD);
        inAll("2: lane", b -> b.row(0, 3, 1), Check.BAD);
        inAll("2: 41", b -> b.row(0, 0, 41), Check.BAD);
        inAll("2: SIZE", b -> b.row(0, 1, -1), Check.SIZE);
        inAll("2: SIZE of one that is missing", b -> b.row(3, 1, -1), Check.SIZE);
        inAll("2: BAD row ahead of SIZE", b -> b.row(8, 0, -1), Check.BAD);
        inAll("2: BAD lane ahead of SIZE", b -> b.row(0, -1, -1), Check.BAD);
        inAll("3: row", b -> b.set(8, 0, 1), Check.BAD);
        inAll("3: NULL", b -> b.set(3, 0, 1), Check.NULL);
        inAll("3: NULL ahead of PLACE", b -> b.set(3, -1, 1), Check.NULL);
        inAll("3: PLACE", b -> b.set(1, 8, 1), Check.PLACE);
        inAll("3: PLACE below", b -> b.set(1, -1, 1), Check.PLACE);
        inAll("3: PLACE of none", b -> b.set(2, 0, 1), Check.PLACE);
        inAll("4: row a", b -> b.copy(8, 0, 0, 0, 1), Check.BAD);
        inAll("4: row b", b -> b.copy(0, 0, 8, 0, 1), Check.BAD);
        inAll("4: BAD ahead of NULL", b -> b.copy(3, 0, -1, 0, 1), Check.BAD);
        inAll("4: NULL a", b -> b.copy(3, 0, 0, 0, 1), Check.NULL);
        inAll("4: NULL b", b -> b.copy(0, 0, 3, 0, 1), Check.NULL);
        inAll("4: NULL ahead of PLACE", b -> b.copy(0, -1, 3, 0, 1), Check.NULL);
        inAll("4: STORE", b -> b.copy(0, 0, 1, 0, 1), Check.STORE);
        inAll("4: STORE ahead of PLACE", b -> b.copy(0, -1, 1, 0, 1), Check.STORE);
        inAll("4: STORE of none", b -> b.copy(0, 0, 2, 0, 0), Check.STORE);
        inAll("4: PLACE by i", b -> b.copy(0, 9, 4, 0, 2), Check.PLACE);
        inAll("4: PLACE by j", b -> b.copy(0, 0, 4, 7, 2), Check.PLACE);
        inAll("4: PLACE by n", b -> b.copy(0, 0, 4, 0, -1), Check.PLACE);
        inAll("4: PLACE within one row", b -> b.copy(0, 0, 0, 1, 10), Check.PLACE);
        inAll("5: row", b -> b.drop(8), Check.BAD);
        inAll("5: NULL", b -> b.drop(3), Check.NULL);
    }

    private static void told() {
        inAll("6: byte", b -> b.feed(256), Check.BAD);
        inAll("6: byte below", b -> b.feed(-1), Check.BAD);
        atFull("6: FULL", b -> b.feed('g'), Check.FULL);
        streetless("9: none", b -> b.undo(), Check.STATE);
    }

    private static void done() {
        midst("10: door", b -> b.stretch(3, 0), Check.BAD);
        midst("10: seconds", b -> b.stretch(0, 6), Check.BAD);
        midst("10: below", b -> b.stretch(0, -1), Check.BAD);
        streetless("10: no door", b -> b.stretch(0, 0), Check.BAD);
        atFull("10: FULL", b -> b.stretch(0, 3), Check.FULL);
        atFull("10: BAD ahead of FULL", b -> b.stretch(0, 6), Check.BAD);
        midst("11: door", b -> b.sound(3, 0, 1), Check.BAD);
        midst("11: what", b -> b.sound(0, 2, 1), Check.BAD);
        midst("11: on", b -> b.sound(0, 0, 2), Check.BAD);
        midst("11: it is so", b -> b.sound(0, 0, 1), Check.STATE);
        midst("11: it is not", b -> b.sound(0, 1, 0), Check.STATE);
        streetless("11: no door", b -> b.sound(0, 0, 0), Check.BAD);
        atFull("11: FULL", b -> b.sound(0, 1, 1), Check.FULL);
        atFull("11: STATE ahead of FULL", b -> b.sound(0, 0, 1), Check.STATE);
        atFull("11: BAD ahead of STATE", b -> b.sound(2, 0, 1), Check.BAD);
        midst("12: none", b -> b.days(0), Check.BAD);
        midst("12: 25", b -> b.days(25), Check.BAD);
        atFull("12: FULL", b -> b.days(1), Check.FULL);
        atFull("12: BAD ahead of FULL", b -> b.days(25), Check.BAD);
        streetless("12: STATE", b -> b.days(1), Check.STATE);
        streetless("12: STATE ahead of BAD", b -> b.days(25), Check.STATE);
        midst("13: door", b -> b.door(3, 0), Check.BAD);
        midst("13: what", b -> b.door(0, 7), Check.BAD);
        midst("14: caller", b -> b.caller(5, 0), Check.BAD);
        midst("14: what", b -> b.caller(0, 5), Check.BAD);
        midst("15: what", b -> b.used(2), Check.BAD);
        streetless("15: STATE", b -> b.used(0), Check.STATE);
        streetless("15: STATE ahead of BAD", b -> b.used(2), Check.STATE);
        inAll("27: image", b -> b.image(2), Check.BAD);
        inAll("28: image", b -> b.restore(2), Check.BAD);
        streetless("27: STATE", b -> b.image(0), Check.STATE);
        inAll("28: none was kept", b -> b.restore(1), Check.STATE);
        inAll("33: what", b -> b.count(9), Check.BAD);
    }

    private static void foretold() {
        midst("18: caller", b -> b.ahead(5, 0, 0), Check.BAD);
        midst("18: n", b -> b.ahead(0, 61, 0), Check.BAD);
        midst("18: what", b -> b.ahead(0, 0, 2), Check.BAD);
        midst("19: caller", b -> b.soon(5), Check.BAD);
        midst("20: sets", b -> b.least(32, 0, -1), Check.BAD);
        midst("20: sets", b -> b.least(0, 32, -1), Check.BAD);
        midst("20: as both", b -> b.least(1, 1, -1), Check.BAD);
        midst("20: door", b -> b.least(0, 0, 3), Check.BAD);
        midst("21: sets", b -> b.whichDoor(32, 0), Check.BAD);
        midst("21: as both", b -> b.whichDoor(3, 2), Check.BAD);
        inAll("22: caller", b -> b.who(5, 0, 0, 1), Check.BAD);
        inAll("22: row", b -> b.who(0, 8, 0, 1), Check.BAD);
        inAll("22: n", b -> b.who(0, 0, 0, 0), Check.BAD);
        inAll("22: n", b -> b.who(0, 0, 0, 13), Check.BAD);
        midst("22: BAD ahead of NULL", b -> b.who(5, 3, 0, 1), Check.BAD);
        midst("22: NULL", b -> b.who(0, 3, 0, 1), Check.NULL);
        midst("22: NULL ahead of PLACE", b -> b.who(0, 3, -1, 1), Check.NULL);
        midst("22: PLACE", b -> b.who(0, 0, 9, 2), Check.PLACE);
        streetless("22: BAD ahead of NULL", b -> b.who(0, 3, 0, 1), Check.BAD);
        midst("23: caller", b -> b.sleeps(5, 0, 0), Check.BAD);
        midst("23: p", b -> b.sleeps(0, 11, 0), Check.BAD);
        midst("23: what", b -> b.sleeps(0, 0, 2), Check.BAD);
        midst("24: door", b -> b.reaches(3, 0), Check.BAD);
        midst("24: what", b -> b.reaches(0, 2), Check.BAD);
        inAll("25: row", b -> b.rather(8, 0, 0), Check.BAD);
        inAll("25: what", b -> b.rather(0, 0, 2), Check.BAD);
        inAll("25: BAD ahead of NULL", b -> b.rather(3, 0, 2), Check.BAD);
        inAll("25: NULL", b -> b.rather(3, 0, 0), Check.NULL);
        inAll("25: NULL ahead of PLACE", b -> b.rather(3, -1, 0), Check.NULL);
        inAll("25: PLACE", b -> b.rather(0, 3, 0), Check.PLACE);
        inAll("25: PLACE ahead of the late BAD", b -> b.rather(4, 1, 0), Check.PLACE);
        inAll("25: the late BAD", b -> b.rather(4, 0, 0), Check.BAD);
        midst("26: n", b -> b.drawn(61, 1, 0), Check.BAD);
        midst("26: seed", b -> b.drawn(1, 0, 0), Check.BAD);
        midst("26: what", b -> b.drawn(1, 1, 2), Check.BAD);
    }

    private static void foretoldWithoutAStreet() {
        streetless("16: STATE", b -> b.meets(), Check.STATE);
        streetless("17: STATE", b -> b.nothing(), Check.STATE);
        streetless("18: BAD", b -> b.ahead(0, 0, 0), Check.BAD);
        streetless("19: BAD", b -> b.soon(0), Check.BAD);
        streetless("20: STATE", b -> b.least(0, 0, -1), Check.STATE);
        streetless("20: STATE ahead of BAD", b -> b.least(1, 1, 0), Check.STATE);
        streetless("21: STATE", b -> b.whichDoor(0, 0), Check.STATE);
        streetless("21: STATE ahead of BAD", b -> b.whichDoor(1, 1), Check.STATE);
        streetless("23: BAD", b -> b.sleeps(0, 0, 0), Check.BAD);
        streetless("24: BAD", b -> b.reaches(0, 0), Check.BAD);
        streetless("26: STATE", b -> b.drawn(1, 1, 0), Check.STATE);
        streetless("26: STATE ahead of BAD", b -> b.drawn(61, 0, 2), Check.STATE);
    }

    private static void asked() {
        inAll("29: caller", b -> b.kind(6), Check.BAD);
        inAll("30: caller", b -> b.as(6, 0), Check.BAD);
        inAll("30: kind", b -> b.as(0, 6), Check.BAD);
        midst("30: KIND", b -> b.as(0, 2), Check.KIND);
        midst("30: BAD ahead of KIND", b -> b.as(5, 5), Check.BAD);
        inAll("31: caller", b -> b.ask(6, 0), Check.BAD);
        midst("31: what", b -> b.ask(0, 2), Check.BAD);
        midst("32: none", b -> b.trace(6), Check.NONE);
        midst("32: below", b -> b.trace(-1), Check.NONE);
    }

    /** A FAULT empties the tape and tells its number; all else stays. */
    private static void faults() {
        String[] texts = {"x", "g3,2;d4;d5;d6;d7;u0,4;u9,1;", "g1,1;d1;d1;d1;d1;d1;d1;d1;", ""};
        String[] others = {"g", "g61", "g1,1;d1;d1;d1;d1;d1;d1;d", "gg"};
        int[] numbers = {1, 2, 3, 1};
        for (int k = 0; k < texts.length; k++) {
            String text = texts[k];
            String other = others[k];
            DoorBell b = restored();
            C.due("7: a fault", Check.read(b, text) <= -1000100 ? 1 : 0, 1);
            C.due("8: its number", b.fault(), numbers[k]);
            C.due("34: a fault is no finding", b.status(), Twins.STATUS);
            dueAlike("7: all stays behind " + text, Twins.behind(RefusedTest::restored, x -> Check.read(x, text)),
                Twins.behind(RefusedTest::restored, x -> Check.read(x, other)), 1);
        }
        tapeAlone();
    }

    /** In the midst, with an empty tape and two DAYS that can be undone. */
    private static DoorBell restored() {
        DoorBell b = Twins.inTheMidst();
        b.street();
        b.restore(0);
        b.days(2);
        return b;
    }

    private static void tapeAlone() {
        DoorBell b = Twins.inTheMidst();
        List<Long> before = new ArrayList<>(Check.seen(b));
        Check.feed(b, "x");
        C.due("7: at the place behind the street", b.street(), -1000100 - 13);
        List<Long> behind = Check.seen(b);
        // The tape is the only one of these that is not as before.
        before.set(8, 0L);
        C.due("7: but the tape", behind.equals(before) ? 1 : 0, 1);
    }

    /** A call with a ROW, or as(), that has no finding tells 0 by status(); every other call leaves it. */
    private static void statusBehindWhatIsNotRefused() {
        C.due("34: there was none", new DoorBell().status(), 0);
        Check.Call[] with = {
            b -> b.row(5, 0, 0), b -> b.set(0, 0, 1), b -> b.copy(0, 0, 0, 0, 0), b -> b.drop(2),
            b -> b.who(0, 0, 0, 1), b -> b.rather(1, 0, 0), b -> b.as(0, 0)
        };
        for (int k = 0; k < with.length; k++) {
            DoorBell b = Twins.inTheMidst();
            C.due("34: ahead", b.status(), Twins.STATUS);
            with[k].of(b);
            C.due("34: none by call " + k, b.status(), 0);
        }
        Check.Call[] without = {
            b -> b.feed('g'), b -> b.street(), b -> b.fault(), b -> b.undo(), b -> b.stretch(0, 1),
            b -> b.sound(1, 0, 1), b -> b.days(1), b -> b.door(0, 0), b -> b.caller(0, 0), b -> b.used(0),
            b -> b.meets(), b -> b.nothing(), b -> b.ahead(0, 1, 0), b -> b.soon(0), b -> b.least(1, 0, -1),
            b -> b.whichDoor(1, 0), b -> b.sleeps(0, 5, 0), b -> b.reaches(0, 1), b -> b.drawn(1, 1, 0),
            b -> b.image(0), b -> b.restore(0), b -> b.kind(0), b -> b.ask(0, 0), b -> b.trace(0), b -> b.count(0),
            b -> b.status()
        };
        for (int k = 0; k < without.length; k++) {
            DoorBell b = Twins.inTheMidst();
            without[k].of(b);
            C.due("34: left by call " + k, b.status(), Twins.STATUS);
        }
    }
}
