/** Promises 9 to 17, 27, 28 and 33: what is laid, DAYS, what is undone, images. */
public final class DoneTest {
    private static final Check C = new Check("DoneTest");
    private static final int MAX = Integer.MAX_VALUE, MIN = Integer.MIN_VALUE;

    public static void main(String[] args) {
        stretches();
        sounds();
        opensAndStays();
        daysGoOn();
        undoTakesBack();
        acts();
        nothingIsByDoors();
        looking();
        images();
        noStreet();
        allThereIsRoomFor();
        C.end();
    }

    private static void stretches() {
        DoorBell b = Check.told("g6,0;d5;d5;");
        C.due("10: was 0", b.stretch(0, 5), 0);
        C.due("10: FULL", b.stretch(1, 2), Check.FULL);
        C.due("10: all SECONDS", b.stretch(1, 1), 0);
        C.due("10: less", b.stretch(0, 4), 5);
        C.due("10: so again", b.stretch(0, 4), 4);
        C.due("10: an act, too", b.count(7), 4);
        C.due("15: seconds", b.used(0), 5);
        C.due("10: more", b.stretch(1, 2), 1);
        C.due("10: 6", b.stretch(0, 6), Check.BAD);
        C.due("10: -1", b.stretch(0, -1), Check.BAD);
        C.due("10: door 2", b.stretch(2, 0), Check.BAD);
        C.due("10: door -1", b.stretch(-1, 0), Check.BAD);
        C.due("10: MAX", b.stretch(0, MAX), Check.BAD);
        C.due("10: MIN", b.stretch(MIN, MIN), Check.BAD);
        C.due("10: refused, no act", b.count(7), 5);
        C.due("13: stretch", b.door(0, 1), 4);
        C.due("10: to none", b.stretch(0, 0), 4);
        C.due("13: none", b.door(0, 1), 0);
    }

    private static void sounds() {
        DoorBell b = Check.told("g0,2;d5;d5;");
        C.due("11: no cough yet", b.sound(0, 0, 0), Check.STATE);
        C.due("11: a cough", b.sound(0, 0, 1), 1);
        C.due("11: it is so", b.sound(0, 0, 1), Check.STATE);
        C.due("11: a dog", b.sound(1, 1, 1), 2);
        C.due("11: FULL", b.sound(0, 1, 1), Check.FULL);
        C.due("11: STATE ahead of FULL", b.sound(1, 1, 1), Check.STATE);
        C.due("15: sounds", b.used(1), 2);
        C.due("11: no more", b.sound(0, 0, 0), 1);
        C.due("11: room again", b.sound(0, 1, 1), 2);
        C.due("13: cough", b.door(0, 2), 0);
        C.due("13: dog", b.door(0, 3), 1);
        C.due("11: what 2", b.sound(0, 2, 1), Check.BAD);
        C.due("11: what -1", b.sound(0, -1, 1), Check.BAD);
        C.due("11: on 2", b.sound(0, 0, 2), Check.BAD);
        C.due("11: on -1", b.sound(0, 0, -1), Check.BAD);
        C.due("11: door 2", b.sound(2, 0, 1), Check.BAD);
        C.due("11: door -1", b.sound(-1, 0, 1), Check.BAD);
        C.due("11: acts", b.count(7), 4);
    }

    private static void opensAndStays() {
        DoorBell b = Check.told("g60,12;d9;d1;d9;d9;u0,4;l0,4;b0,4;p0,9;k0,9;p0,2;");
        dueStays(b, "12: nothing laid", 4, 4, 8, 3, 3, 2);
        b.stretch(0, 5);
        C.due("13: opens by stretch", b.door(0, 5), 14);
        dueStays(b, "14: stretch", 4, 9, 8, 3, 3, 2);
        b.sound(0, 0, 1);
        C.due("13: opens by cough", b.door(0, 5), 13);
        dueStays(b, "14: cough", 6, 11, 12, 3, 3, 2);
        b.sound(1, 1, 1);
        C.due("13: opens by dog next door", b.door(0, 5), 15);
        dueStays(b, "14: dog", 6, 11, 12, 3, 1, 2);
        C.due("13: heard at 0", b.door(0, 4), 1);
        C.due("13: heard at 1", b.door(1, 4), 1);
        C.due("13: heard at 2", b.door(2, 4), 1);
        C.due("13: not heard at 3", b.door(3, 4), 0);
        b.sound(0, 1, 1);
        C.due("13: two dogs are heard as one", b.door(0, 5), 15);
        b.sound(1, 1, 0);
        b.sound(0, 1, 0);
        b.sound(3, 1, 1);
        C.due("13: not round the end", b.door(0, 4), 0);
        b.sound(1, 0, 1);
        C.due("13: 0 at least", b.door(1, 5), 0);
        DoorBell c = Check.told("g0,9;d1;k0,0;k0,1;");
        c.sound(0, 0, 1);
        C.due("14: opens behind 0", c.meets(), 3);
        c.sound(0, 1, 1);
        C.due("13: cough and dog", c.door(0, 5), 2);
        C.due("14: a child of no patience", c.caller(0, 2), 0);
        C.due("14: a child of some", c.caller(1, 2), 1);
    }

    private static void dueStays(DoorBell b, String what, int... want) {
        for (int one = 0; one < want.length; one++) {
            C.due(what + " caller " + one, b.caller(one, 2), want[one]);
            C.due(what + " meets " + one, b.caller(one, 3), want[one] >= b.door(0, 5) ? 1 : 0);
        }
    }

    private static void daysGoOn() {
        DoorBell b = Check.told("g9,9;d5;d3;d9;u0,4;u1,2;b2,5;");
        C.due("16: today", b.meets(), 4);
        C.due("12: the last of them", b.days(2), 5);
        C.due("12: day", b.count(5), 2);
        C.due("12: 0 is at", b.caller(0, 0), 1);
        C.due("12: 0 has met", b.caller(0, 4), 1);
        C.due("12: 1 went round", b.caller(1, 0), 0);
        C.due("12: 1 has not met", b.caller(1, 4), 0);
        C.due("12: 2 stays", b.caller(2, 0), 2);
        C.due("12: 2 has met", b.caller(2, 4), 2);
        C.due("33: all have met", b.count(6), 3);
        C.due("12: 0", b.days(0), Check.BAD);
        C.due("12: 25", b.days(25), Check.BAD);
        C.due("12: MAX", b.days(MAX), Check.BAD);
        for (int k = 0; k < 41; k++) {
            b.days(24);
        }
        C.due("12: days", b.count(5), 986);
        C.due("12: FULL", b.days(14), Check.FULL);
        C.due("12: not gone", b.count(5), 986);
        C.due("12: to the last", b.days(13), 5);
        C.due("12: 999", b.count(5), 999);
        C.due("12: no more", b.days(1), Check.FULL);
        C.due("12: BAD ahead of FULL", b.days(25), Check.BAD);
        C.due("9: undone", b.undo(), 23);
        C.due("12: one more again", b.days(1), 5);
    }

    private static void undoTakesBack() {
        DoorBell b = Check.told("g9,9;d5;d3;d9;u0,4;u1,2;b2,5;");
        b.stretch(0, 2);
        b.stretch(0, 4);
        b.sound(1, 0, 1);
        b.sound(1, 1, 1);
        b.sound(1, 1, 0);
        b.days(2);
        C.due("9: a day", b.undo(), 6);
        C.due("9: day", b.count(5), 1);
        C.due("9: place of 0", b.caller(0, 0), 1);
        C.due("9: met of 0", b.caller(0, 4), 0);
        C.due("9: place of 1", b.caller(1, 0), 1);
        C.due("9: met of 1", b.caller(1, 4), 1);
        C.due("9: met of 2", b.caller(2, 4), 1);
        C.due("9: the first day", b.undo(), 5);
        C.due("9: back round the end", b.caller(0, 0), 0);
        C.due("9: nobody has met", b.count(6), 0);
        C.due("9: a dog that went", b.undo(), 4);
        C.due("9: it is there", b.door(1, 3), 1);
        C.due("9: a dog that came", b.undo(), 3);
        C.due("9: it is not there", b.door(1, 3), 0);
        C.due("9: a cough", b.undo(), 2);
        C.due("9: it is not there", b.door(1, 2), 0);
        C.due("9: stretch", b.undo(), 1);
        C.due("9: as it was", b.door(0, 1), 2);
        C.due("9: stretch", b.undo(), 0);
        C.due("9: as at first", b.door(0, 1), 0);
        C.due("9: none", b.undo(), Check.STATE);
        C.due("15: seconds", b.used(0), 0);
        C.due("15: sounds", b.used(1), 0);
        DoorBell round = Check.told("g0,0;d9;d9;u1,0;");
        round.days(1);
        C.due("12: behind the last the first", round.caller(0, 0), 0);
        round.undo();
        C.due("9: ahead of the first the last", round.caller(0, 0), 1);
    }

    private static void acts() {
        DoorBell b = Check.told("g60,12;d5;u0,5;");
        for (int k = 0; k < 24; k++) {
            b.stretch(0, k % 5 + 1);
        }
        C.due("33: 24 acts", b.count(7), 24);
        b.sound(0, 0, 1);
        C.due("33: not 25", b.count(7), 24);
        C.due("9: the cough first", b.undo(), 23);
        C.due("9: it is gone", b.door(0, 2), 0);
        for (int k = 22; k >= 0; k--) {
            C.due("9: left", b.undo(), k);
        }
        C.due("9: the oldest is forgotten", b.door(0, 1), 1);
        C.due("9: none", b.undo(), Check.STATE);
        b.stretch(0, 5);
        b.days(24);
        for (int k = 0; k < 24; k++) {
            b.undo();
        }
        C.due("9: only days were kept", b.door(0, 1), 5);
        C.due("9: day 0", b.count(5), 0);
        C.due("9: none", b.undo(), Check.STATE);
    }

    private static void nothingIsByDoors() {
        DoorBell b = Check.told("g9,9;d9;d9;d2;u2,1;u1,1;u1,9;");
        C.due("17: by number, not by time", b.nothing(), 2);
        b.sound(2, 0, 1);
        C.due("17: none", b.nothing(), Check.NONE);
        b.stretch(1, 1);
        C.due("17: the first", b.nothing(), 1);
        DoorBell early = Check.told("g0,0;d9;d2;u0,1;u1,1;");
        C.due("17: the lesser door, though later", early.nothing(), 0);
        C.due("17: without callers", Check.told("g0,0;d9;").nothing(), Check.NONE);
    }

    private static void looking() {
        DoorBell b = Check.told("g7,8;d9;d2;u1,1;l0,3;p1,4;");
        C.due("13: its seconds", b.door(1, 0), 2);
        C.due("13: callers there", b.door(1, 6), 5);
        C.due("13: callers there", b.door(0, 6), 2);
        C.due("13: what 7", b.door(0, 7), Check.BAD);
        C.due("13: what -1", b.door(0, -1), Check.BAD);
        C.due("13: door 2", b.door(2, 0), Check.BAD);
        C.due("13: door -1", b.door(-1, 0), Check.BAD);
        C.due("14: door", b.caller(2, 0), 1);
        C.due("14: patience", b.caller(2, 1), 4);
        C.due("14: what 5", b.caller(0, 5), Check.BAD);
        C.due("14: what -1", b.caller(0, -1), Check.BAD);
        C.due("14: caller 3", b.caller(3, 0), Check.BAD);
        C.due("14: caller -1", b.caller(-1, 0), Check.BAD);
        C.due("15: what 2", b.used(2), Check.BAD);
        C.due("15: what -1", b.used(-1), Check.BAD);
        C.due("16: meets", b.meets(), 4);
        b.feed('g');
        b.row(5, 0, 1);
        int[] want = {1, 2, 3, 7, 8, 0, 0, 0, 1};
        for (int what = 0; what < want.length; what++) {
            C.due("33: count " + what, b.count(what), want[what]);
        }
        C.due("33: count 9", b.count(9), Check.BAD);
        C.due("33: count -1", b.count(-1), Check.BAD);
    }

    private static void images() {
        DoorBell b = Check.told("g7,8;d9;d2;u1,1;l0,3;");
        C.due("27: -1", b.image(-1), Check.BAD);
        C.due("27: 2", b.image(2), Check.BAD);
        C.due("28: -1", b.restore(-1), Check.BAD);
        C.due("28: 2", b.restore(2), Check.BAD);
        b.stretch(1, 2);
        b.sound(0, 1, 1);
        b.days(3);
        C.due("27: kept", b.image(1), 1);
        C.due("27: acts stay", b.count(7), 5);
        C.due("28: none in 0", b.restore(0), Check.STATE);
        b.row(2, 0, 7);
        b.undo();
        b.undo();
        b.sound(1, 0, 1);
        Check.read(b, "g1,1;d1;");
        b.feed('g');
        C.due("28: as it was", b.restore(1), 1);
        int[] want = {1, 2, 2, 7, 8, 3, 0, 0, 1};
        for (int what = 0; what < want.length; what++) {
            C.due("28: count " + what, b.count(what), want[what]);
        }
        C.due("28: none to undo", b.undo(), Check.STATE);
        C.due("28: stretch", b.door(1, 1), 2);
        C.due("28: dog", b.door(0, 3), 1);
        C.due("28: no cough", b.door(1, 2), 0);
        C.due("28: place", b.caller(0, 0), 0);
        C.due("28: kind", b.kind(1), 2);
        b.stretch(1, 0);
        C.due("28: kept yet", b.restore(1), 1);
        C.due("28: stretch", b.door(1, 1), 2);
        C.due("28: none to undo", b.undo(), Check.STATE);
        b.days(1);
        b.image(0);
        b.image(1);
        b.days(1);
        C.due("28: both", b.restore(0) + b.restore(1), 2);
        C.due("27: in place of the one before", b.count(5), 4);
        DoorBell met = Check.told("g0,0;d1;u0,1;u0,0;");
        met.days(2);
        met.image(0);
        met.days(3);
        C.due("33: have met", met.count(6), 5);
        met.restore(0);
        C.due("28: how often it has met", met.caller(0, 4), 2);
        C.due("14: meets is told by 1", met.caller(0, 3), 1);
        C.due("14: and by 0", met.caller(1, 3), 0);
    }

    private static void noStreet() {
        DoorBell b = new DoorBell();
        C.due("12: STATE ahead of BAD", b.days(0), Check.STATE);
        C.due("15: STATE ahead of BAD", b.used(2), Check.STATE);
        C.due("16: STATE", b.meets(), Check.STATE);
        C.due("17: STATE", b.nothing(), Check.STATE);
        C.due("27: BAD", b.image(2), Check.BAD);
        C.due("27: STATE", b.image(1), Check.STATE);
        C.due("10: BAD", b.stretch(0, 0), Check.BAD);
        C.due("11: BAD", b.sound(0, 0, 0), Check.BAD);
        C.due("13: BAD", b.door(0, 0), Check.BAD);
        C.due("14: BAD", b.caller(0, 0), Check.BAD);
    }

    private static void allThereIsRoomFor() {
        DoorBell b = Check.told("g60,12;d1;d1;d1;d1;d1;d1;u0,20;u1,20;u2,20;u3,20;u4,20;u5,0;");
        for (int door = 0; door < 6; door++) {
            C.due("10: at " + door, b.stretch(door, 5), 0);
            C.due("11: a cough at " + door, b.sound(door, 0, 1), 2 * door + 1);
            C.due("11: a dog at " + door, b.sound(door, 1, 1), 2 * door + 2);
        }
        C.due("15: seconds", b.used(0), 30);
        C.due("15: sounds", b.used(1), 12);
        C.due("12: days", b.days(6), 31);
        C.due("33: all have met", b.count(6), 30);
        C.due("12: once round", b.caller(5, 0), 5);
        C.due("17: nothing", b.nothing(), 5);
        C.due("9: undone", b.undo(), 23);
        C.due("33: all have met", b.count(6), 25);
        C.due("9: back", b.caller(5, 0), 4);
        C.due("17: not alone there", b.nothing(), Check.NONE);
        C.due("20: the fewest", b.least(31, 32, -1), 0);
        C.due("21: none", b.whichDoor(31, 32), Check.NONE);
        b.row(0, 2, 40);
        C.due("25: at the end of a row", b.rather(0, 32, 1), 15);
        C.due("25: beyond", b.rather(0, 33, 1), Check.PLACE);
        C.due("22: at the end of a row", b.who(5, 0, 28, 12), 2 + 8 + 16 + 32);
        C.due("22: beyond", b.who(5, 0, 29, 12), Check.PLACE);
    }
}
