/** Promises 18 to 26: what is FORETOLD. */
public final class ForetoldTest {
    private static final Check C = new Check("ForetoldTest");
    private static final int MAX = Integer.MAX_VALUE, MIN = Integer.MIN_VALUE;

    public static void main(String[] args) {
        ahead();
        soon();
        least();
        leastOfSeveral();
        leastByNeighbours();
        whichDoor();
        who();
        sleeps();
        reaches();
        rather();
        drawn();
        drawnLong();
        C.end();
    }

    private static void ahead() {
        DoorBell b = Check.told("g9,9;d9;d9;d3;u0,3;u0,1;");
        int[] place = {0, 1, 2, 2, 2};
        int[] met = {0, 0, 0, 1, 2};
        for (int n = 0; n < place.length; n++) {
            C.due("18: door by " + n, b.ahead(0, n, 0), place[n]);
            C.due("18: met by " + n, b.ahead(0, n, 1), met[n]);
        }
        C.due("18: by 60", b.ahead(0, 60, 1), 58);
        C.due("18: who never meets", b.ahead(1, 59, 0), 2);
        C.due("18: never", b.ahead(1, 60, 1), 0);
        C.due("18: 61", b.ahead(0, 61, 0), Check.BAD);
        C.due("18: -1", b.ahead(0, -1, 0), Check.BAD);
        C.due("18: what 2", b.ahead(0, 0, 2), Check.BAD);
        C.due("18: what -1", b.ahead(0, 0, -1), Check.BAD);
        C.due("18: caller 2", b.ahead(2, 0, 0), Check.BAD);
        C.due("18: caller -1", b.ahead(-1, 0, 0), Check.BAD);
        b.days(4);
        C.due("18: what has been counts", b.ahead(0, 1, 1), 3);
        C.due("18: nothing changes", b.count(5), 4);
        for (int k = 0; k < 41; k++) {
            b.days(24);
        }
        C.due("18: beyond the last day", b.ahead(0, 60, 1), b.caller(0, 4) + 60);
    }

    private static void soon() {
        DoorBell b = Check.told("g9,9;d9;d9;d3;u0,3;u0,1;u2,3;");
        C.due("19: in two", b.soon(0), 2);
        C.due("19: never", b.soon(1), Check.NONE);
        C.due("19: today", b.soon(2), 0);
        C.due("19: caller 3", b.soon(3), Check.BAD);
        C.due("19: caller -1", b.soon(-1), Check.BAD);
        b.days(1);
        C.due("19: tomorrow", b.soon(0), 1);
    }

    private static void dueLeast(String what, DoorBell b, int meet, int not, int total, int... codes) {
        C.due(what, b.least(meet, not, -1), total);
        for (int door = 0; door < codes.length; door++) {
            C.due(what + " at " + door, b.least(meet, not, door), codes[door]);
        }
    }

    private static void least() {
        DoorBell b = Check.told("g0,0;d5;d8;u0,4;l1,6;k1,20;");
        dueLeast("20: nobody told", b, 0, 0, 0, 0, 0);
        dueLeast("20: a cough", b, 1, 0, 1, 2, 0);
        dueLeast("20: it is so", b, 0, 7, 0, 0, 0);
        dueLeast("20: laws do not matter", b, 3, 4, 2, 2, 2);
        dueLeast("20: can not", b, 4, 0, Check.NONE, Check.NONE, Check.NONE);
        DoorBell c = Check.told("g9,9;d5;u0,5;");
        dueLeast("20: a dog comes ahead of a second", c, 0, 1, 1, 1);
        DoorBell d = Check.told("g9,9;d2;p0,5;k0,5;");
        dueLeast("20: a dog parts them", d, 0, 2, 1, 1);
        dueLeast("20: a dog is too much for a postman, too", d, 0, 1, 1, 1);
        dueLeast("20: a second leaves both", d, 3, 0, 0, 0);
        c.stretch(0, 5);
        dueLeast("20: in place of what is laid", c, 1, 0, 0, 0);
        C.due("13: what is laid stays", c.door(0, 1), 5);
        C.due("20: sets", b.least(8, 0, -1), Check.BAD);
        C.due("20: sets", b.least(0, 8, -1), Check.BAD);
        C.due("20: sets", b.least(-1, 0, -1), Check.BAD);
        C.due("20: sets", b.least(0, MIN, -1), Check.BAD);
        C.due("20: one told as both", b.least(3, 2, -1), Check.BAD);
        C.due("20: door 2", b.least(0, 0, 2), Check.BAD);
        C.due("20: door -2", b.least(0, 0, -2), Check.BAD);
        C.due("20: BAD ahead of NONE", b.least(4, 0, 2), Check.BAD);
        C.due("20: no street", new DoorBell().least(-1, -1, -2), Check.STATE);
    }

    /** Few of many ways: a DOG that costs a COUGH elsewhere, and all that can be laid at one DOOR. */
    private static void leastOfSeveral() {
        DoorBell b = Check.told("g0,0;d5;d5;u0,6;u1,6;");
        dueLeast("20: the first door has less, though without a dog", b, 1, 2, 2, 0, 8);
        dueLeast("20: five seconds and a cough", Check.told("g0,0;d2;l0,0;u0,3;"), 1, 2, 6, 22);
        dueLeast("20: five seconds and a dog", Check.told("g0,0;d2;u0,8;"), 0, 1, 6, 21);
        dueLeast("20: not even so", Check.told("g0,0;d2;u0,9;"), 0, 1, Check.NONE, Check.NONE);
    }

    /** One DOG can part callers at three DOORS; of two ways the one whose first DOOR has less is told. */
    private static void leastByNeighbours() {
        DoorBell b = Check.told("g0,0;d5;d5;d5;u0,5;u1,5;u2,5;");
        dueLeast("20: one for all three", b, 0, 7, 1, 0, 1, 0);
        dueLeast("20: the last of those that may", b, 0, 2, 1, 0, 0, 1);
        dueLeast("20: the first may not hear", b, 1, 6, 1, 0, 0, 1);
        dueLeast("20: the last may not hear", b, 4, 3, 1, 1, 0, 0);
        dueLeast("20: a cough holds the middle though a dog is heard", b, 2, 5, 2, 0, 3, 0);
        DoorBell six = Check.told("g0,0;d5;d5;d5;d5;d5;d5;u0,5;u1,5;u2,5;u3,5;u4,5;u5,5;");
        dueLeast("20: two for six", six, 0, 63, 2, 0, 1, 0, 0, 1, 0);
        // The child meets only unheard, so the postman is kept away by a second, not by a dog.
        DoorBell t = Check.told("g0,0;d3;d3;k0,9;p1,9;");
        dueLeast("20: a dog at the second is heard by the first", t, 1, 2, 1, 0, 4);
    }

    private static void whichDoor() {
        DoorBell b = Check.told("g0,0;d5;d8;d9;u0,4;l1,6;k1,20;k2,20;u2,9;");
        C.due("21: none", b.whichDoor(3, 4), Check.NONE);
        C.due("21: the first", b.whichDoor(12, 0), 1);
        C.due("21: the second", b.whichDoor(9, 0), 2);
        C.due("21: the very first", Check.told("g0,0;d9;d9;k0,9;k1,9;").whichDoor(3, 0), 0);
        C.due("21: not told, not asked", b.whichDoor(0, 0), Check.NONE);
        C.due("21: sets", b.whichDoor(32, 0), Check.BAD);
        C.due("21: sets", b.whichDoor(0, -1), Check.BAD);
        C.due("21: one told as both", b.whichDoor(1, 1), Check.BAD);
        C.due("21: no street", new DoorBell().whichDoor(1, 1), Check.STATE);
        // Each door by itself can, but the dog that one needs is heard by the other.
        DoorBell apart = Check.told("g0,0;d1;d3;p0,3;k0,3;k1,3;");
        C.due("20: first heard, second not", apart.least(5, 2, -1), Check.NONE);
        C.due("21: though each alone can", apart.whichDoor(5, 2), Check.NONE);
    }

    private static void who() {
        DoorBell b = Check.told("g9,9;d6;d2;u0,3;");
        // Guest 3, lover 3, bailiff 6, postman 3, child 3: only the bailiff meets at once.
        Check.fill(b, 0, 0, 1, 1, 0, 1, 1);
        C.due("22: a bailiff", b.who(0, 0, 0, 2), 8);
        C.due("22: all others", b.who(0, 0, 2, 3), 2 + 4 + 16 + 32);
        C.due("22: by one day", b.who(0, 0, 2, 1), 2 + 4 + 16 + 32);
        C.due("22: nobody", b.who(0, 0, 1, 3), 0);
        b.sound(1, 1, 1);
        // Door 1 opens behind 4 now, where a dog is heard: nobody but a bailiff, who meets at neither 8 nor 4 .. 6.
        Check.fill(b, 1, 2, 0, 1, 1);
        C.due("22: a bailiff later", b.who(0, 1, 0, 3), 8);
        Check.fill(b, 2, 1, 0, 0, 0, 0, 0, 0, 0, 0, 0, 0, 0, 0);
        C.due("22: never", b.who(0, 2, 0, 12), 2 + 4 + 16 + 32);
        b.set(2, 11, 2);
        C.due("22: neither 0 nor 1", b.who(0, 2, 0, 12), 0);
        C.due("22: n 13", b.who(0, 2, 0, 13), Check.BAD);
        C.due("22: n 0", b.who(0, 2, 0, 0), Check.BAD);
        C.due("22: caller 1", b.who(1, 2, 0, 1), Check.BAD);
        C.due("22: caller -1", b.who(-1, 2, 0, 1), Check.BAD);
        C.due("22: row 8", b.who(0, 8, 0, 1), Check.BAD);
        C.due("22: row -1", b.who(0, -1, 0, 1), Check.BAD);
        C.due("22: NULL ahead of PLACE", b.who(0, 3, -1, 1), Check.NULL);
        C.due("22: place -1", b.who(0, 2, -1, 1), Check.PLACE);
        C.due("22: place 12", b.who(0, 2, 12, 1), Check.PLACE);
        C.due("22: beyond the end", b.who(0, 2, 1, 12), Check.PLACE);
        C.due("22: MAX", b.who(0, 2, MAX, 12), Check.PLACE);
    }

    private static void dueSleeps(String what, DoorBell b, int caller, int p, int above, int below) {
        C.due(what + " above", b.sleeps(caller, p, 0), above);
        C.due(what + " below", b.sleeps(caller, p, 1), below);
    }

    private static void sleeps() {
        DoorBell b = Check.told("g9,9;d5;d5;d5;d5;u1,4;u0,5;");
        dueSleeps("23: never", b, 0, 3, 0, 1);
        dueSleeps("23: always", b, 1, 3, 1, 1);
        b.sound(1, 0, 1);
        dueSleeps("23: if the cough is there", b, 0, 3, 7, 10);
        dueSleeps("23: p 0", b, 0, 0, 1, 1);
        dueSleeps("23: p 10", b, 0, 10, 0, 1);
        b.sound(0, 1, 1);
        b.sound(2, 1, 1);
        b.stretch(1, 1);
        // Door 1: 5 + 1 + 2 - 1 = 7 against 6: it meets if it is awake and both dogs sleep.
        dueSleeps("23: both dogs asleep", b, 0, 3, 63, 1000);
        dueSleeps("23: in lowest terms", b, 0, 5, 1, 8);
        b.sound(3, 1, 1);
        dueSleeps("23: a dog that is not heard", b, 0, 5, 1, 8);
        dueSleeps("23: a dog of its own door", b, 1, 4, 2, 5);
        b.sound(2, 1, 0);
        b.sound(3, 1, 0);
        // Now only the dog of door 0 keeps caller 0 away: it sleeps, door 1 does not.
        dueSleeps("23: one asleep, one awake", b, 0, 2, 4, 25);
        dueSleeps("23: one asleep, one awake", b, 0, 9, 9, 100);
        b.sound(0, 1, 0);
        b.sound(1, 0, 0);
        b.stretch(0, 3);
        dueSleeps("23: stretch sleeps, too", b, 1, 7, 7, 10);
        C.due("23: p 11", b.sleeps(0, 11, 0), Check.BAD);
        C.due("23: p -1", b.sleeps(0, -1, 0), Check.BAD);
        C.due("23: what 2", b.sleeps(0, 0, 2), Check.BAD);
        C.due("23: what -1", b.sleeps(0, 0, -1), Check.BAD);
        C.due("23: caller 2", b.sleeps(2, 0, 0), Check.BAD);
        C.due("23: caller -1", b.sleeps(-1, 0, 0), Check.BAD);
        C.due("23: what is laid stays", b.used(0) + b.used(1), 4);
    }

    private static void reaches() {
        DoorBell b = Check.told("g9,9;d5;d5;d5;u0,5;u1,3;u2,5;l0,3;");
        C.due("24: the first", b.reaches(0, 0), 3);
        C.due("24: the middle", b.reaches(1, 0), 7);
        C.due("24: the last", b.reaches(2, 0), 6);
        C.due("24: no sounds", b.reaches(1, 1), 0);
        b.sound(1, 1, 1);
        C.due("24: who would meet without", b.reaches(1, 1), 5);
        b.sound(1, 1, 0);
        b.sound(1, 0, 1);
        C.due("24: who would not meet without", b.reaches(1, 1), 2);
        b.sound(1, 1, 1);
        C.due("24: both sounds at once", b.reaches(1, 1), 5);
        b.stretch(0, 2);
        b.sound(0, 0, 1);
        b.sound(1, 1, 0);
        C.due("24: stretch stays", b.reaches(0, 1), 9);
        C.due("24: door 3", b.reaches(3, 0), Check.BAD);
        C.due("24: door -1", b.reaches(-1, 0), Check.BAD);
        C.due("24: what 2", b.reaches(0, 2), Check.BAD);
        C.due("24: what -1", b.reaches(0, -1), Check.BAD);
        C.due("24: nothing changes", b.used(1), 2);
        C.due("24: no street", new DoorBell().reaches(0, 0), Check.BAD);
    }

    private static void dueRather(String what, int ways, int... items) {
        DoorBell b = new DoorBell();
        b.row(6, 1, 10);
        for (int i = 0; i < 8; i++) {
            b.set(6, i + 2, items[i]);
        }
        C.due("25: " + what, b.rather(6, 2, 1), ways);
        C.due("25: how many, " + what, b.rather(6, 2, 0), Integer.bitCount(ways));
    }

    private static void rather() {
        dueRather("all alike", 15, 0, 0, 0, 0, 0, 0, 0, 0);
        dueRather("both rather ring", 1, 3, 3, 0, 0, 3, 0, 3, 0);
        dueRather("the first rings, the second waits", 2, 1, 1, 0, 0, 0, 1, 0, 1);
        dueRather("the second rings, the first waits", 4, 0, 0, 1, 1, 1, 0, 1, 0);
        dueRather("nobody", 8, 0, 0, 1, 1, 0, 1, 0, 1);
        dueRather("neither would be first", 9, 20, -20, 0, 0, 20, 0, -20, 0);
        dueRather("none", 0, 1, -1, -1, 1, -1, 1, 1, -1);
        DoorBell b = new DoorBell();
        Check.fill(b, 0, 0, 20, -20, 0, 0, 0, 0, 0, 0);
        C.due("25: bounds", b.rather(0, 0, 0), 2);
        C.due("25: NULL", b.rather(1, -1, 0), Check.NULL);
        C.due("25: place 1", b.rather(0, 1, 0), Check.PLACE);
        C.due("25: place -1", b.rather(0, -1, 0), Check.PLACE);
        C.due("25: MAX", b.rather(0, MAX, 0), Check.PLACE);
        C.due("25: what 2", b.rather(1, 0, 2), Check.BAD);
        C.due("25: what -1", b.rather(0, 0, -1), Check.BAD);
        C.due("25: row 8", b.rather(8, 0, 0), Check.BAD);
        C.due("25: row -1", b.rather(-1, 0, 0), Check.BAD);
        for (int i = 0; i < 8; i++) {
            Check.fill(b, 0, 0, 0, 0, 0, 0, 0, 0, 0, 0);
            b.set(0, i, 21);
            C.due("25: 21 at " + i, b.rather(0, 0, 0), Check.BAD);
            C.due("25: PLACE ahead of the late BAD", b.rather(0, 1, 0), Check.PLACE);
            b.set(0, i, -21);
            C.due("25: -21 at " + i, b.rather(0, 0, 0), Check.BAD);
        }
    }

    private static void drawn() {
        DoorBell b = Check.told("g0,0;d5;d5;d5;u0,5;u1,4;");
        C.due("26: no days", b.drawn(0, 1, 0), 0);
        C.due("26: doors today", b.drawn(0, 1, 1), 1);
        // X = 16807: door 1, stretch 1, no cough, no dog: 0 meets, 1 goes on to 2.
        C.due("26: the first day", b.drawn(1, 1, 0), 1);
        C.due("26: doors then", b.drawn(1, 1, 1), 2);
        // X = 282475249: door 1 (rest by 3), stretch 1, odd, no dog: 0 meets, 1 goes on to 0.
        C.due("26: two days", b.drawn(2, 1, 0), 2);
        C.due("26: doors then", b.drawn(2, 1, 1), 0);
        // Seed 2, X = 33614: door 2, stretch 2, a cough, no dog: 0 meets, 1 goes on.
        C.due("26: seed 2", b.drawn(1, 2, 1), 2);
        // Seed 6, X = 100842: door 0, stretch 0, a cough, a dog: 6 against 7, 0 meets; at 1 the dog is heard.
        C.due("26: seed 6", b.drawn(1, 6, 0), 1);
        C.due("26: nothing laid", b.used(0) + b.used(1), 0);
        C.due("26: nothing changes", b.count(5) + b.count(6) + b.count(7), 0);
        b.days(2);
        C.due("26: only on these", b.drawn(0, 1, 0), 0);
        C.due("26: n 61", b.drawn(61, 1, 0), Check.BAD);
        C.due("26: n -1", b.drawn(-1, 1, 0), Check.BAD);
        C.due("26: seed 0", b.drawn(1, 0, 0), Check.BAD);
        C.due("26: seed 1000000", b.drawn(1, 1000000, 0), Check.BAD);
        C.due("26: seed 999999", b.drawn(0, 999999, 0), 0);
        C.due("26: what 2", b.drawn(1, 1, 2), Check.BAD);
        C.due("26: what -1", b.drawn(1, 1, -1), Check.BAD);
        C.due("26: no street", new DoorBell().drawn(-1, 0, 2), Check.STATE);
    }

    /** Answers that another program, written apart, has given. */
    private static void drawnLong() {
        int[] seeds = {1, 2, 3, 999999, 123456};
        int[] met60 = {133, 113, 108, 144, 89};
        int[] doors60 = {5, 7, 6, 6, 4};
        int[] met7 = {19, 20, 4, 20, 8};
        int[] doors7 = {4, 6, 4, 6, 6};
        int[] metAtOne = {17, 16, 11, 21, 7};
        DoorBell b = Check.told("g0,0;d5;d3;d4;u0,5;l1,3;b2,2;p1,9;k2,9;");
        DoorBell one = Check.told("g0,0;d4;u0,5;l0,3;b0,2;p0,9;k0,9;");
        for (int k = 0; k < seeds.length; k++) {
            C.due("26: 60 days by " + seeds[k], b.drawn(60, seeds[k], 0), met60[k]);
            C.due("26: doors behind 60 days by " + seeds[k], b.drawn(60, seeds[k], 1), doors60[k]);
            C.due("26: 7 days by " + seeds[k], b.drawn(7, seeds[k], 0), met7[k]);
            C.due("26: doors behind 7 days by " + seeds[k], b.drawn(7, seeds[k], 1), doors7[k]);
            C.due("26: one door by " + seeds[k], one.drawn(9, seeds[k], 0), metAtOne[k]);
        }
    }
}
