/** The boundary cases of parts 3 and 4 and of promises 18 to 26, 29 to 32; both sides of each. */
public final class BoundsForetoldTest {
    private static final Check C = new Check("BoundsForetoldTest");
    private static final int MAX = Check.MAX, MIN = Check.MIN;
    private static final int[] WILD = {-1, MIN, MIN + 1, MAX - 1, MAX};
    private static final int ALL_KINDS = 0b111110;

    public static void main(String[] args) {
        aheadZeroToSixty();
        soonOrNone();
        setsOfLeast();
        leastOrNone();
        leastIsExact();
        leastOfSeveral();
        setsOfWhichDoor();
        whichDoorOrNone();
        whoOneToTwelve();
        whoIsOneOrZero();
        sleepsZeroToTen();
        sleepsInLowestTerms();
        reachesAtTheEnds();
        ratherEightItems();
        ratherMinusTwentyToTwenty();
        ratherNotMoreIsEnough();
        drawnZeroToSixty();
        drawnSeeds();
        kindsAndAs();
        asksAndTrace();
        C.end();
    }

    private static void aheadZeroToSixty() {
        DoorBell b = Check.told("g0,0;d9;d9;d9;d9;d9;d9;u3,0;u3,9;");
        for (int n = 0; n <= 60; n++) {
            C.due("18: door by " + n, b.ahead(0, n, 0), (3 + n) % 6);
            C.due("18: met by " + n, b.ahead(0, n, 1), 0);
            C.due("18: who meets is there by " + n, b.ahead(1, n, 0), 3);
            C.due("18: and has met by " + n, b.ahead(1, n, 1), n);
        }
        C.due("18: 61", b.ahead(0, 61, 0), Check.BAD);
        C.due("18: 61", b.ahead(0, 61, 1), Check.BAD);
        for (int wrong : WILD) {
            C.due("18: n " + wrong, b.ahead(0, wrong, 0), Check.BAD);
            C.due("18: caller " + wrong, b.ahead(wrong, 0, 0), Check.BAD);
            C.due("18: what " + wrong, b.ahead(0, 0, wrong), Check.BAD);
        }
        C.due("18: behind the last caller", b.ahead(2, 0, 0), Check.BAD);
        C.due("18: what 2", b.ahead(1, 0, 2), Check.BAD);
        C.due("18: no street", new DoorBell().ahead(0, 0, 0), Check.BAD);
        C.due("18: nobody", Check.told("g0,0;d9;").ahead(0, 0, 0), Check.BAD);
        C.due("18: nothing changes", b.count(5) + b.count(6) + b.caller(0, 0), 3);
    }

    private static void soonOrNone() {
        DoorBell b = Check.told("g0,0;d9;d9;d9;d9;d9;d5;u5,5;u0,5;u4,5;u0,4;");
        C.due("19: today", b.soon(0), 0);
        C.due("19: at the last door of all", b.soon(1), 5);
        C.due("19: tomorrow", b.soon(2), 1);
        C.due("19: none in 60", b.soon(3), Check.NONE);
        DoorBell round = Check.told("g0,0;d5;d9;d9;d9;d9;d9;u1,5;");
        C.due("19: once round", round.soon(0), 5);
        DoorBell one = Check.told("g0,0;d5;u0,5;u0,4;");
        C.due("19: one door, today", one.soon(0), 0);
        C.due("19: one door, never", one.soon(1), Check.NONE);
        for (int wrong : WILD) {
            C.due("19: caller " + wrong, b.soon(wrong), Check.BAD);
        }
        C.due("19: behind the last", b.soon(4), Check.BAD);
        C.due("19: no street", new DoorBell().soon(0), Check.BAD);
    }

    private static void setsOfLeast() {
        DoorBell b = Check.told("g0,0;d5;d5;u0,5;u1,5;u1,4;");
        C.due("20: all callers", b.least(3, 4, -1), 0);
        C.due("20: nobody", b.least(0, 0, -1), 0);
        for (int set : new int[] {8, 9, 64, 256, -1, -8, MIN, MAX}) {
            C.due("20: to meet " + set, b.least(set, 0, -1), Check.BAD);
            C.due("20: not " + set, b.least(0, set, -1), Check.BAD);
        }
        for (int both = 1; both <= 7; both++) {
            C.due("20: told as both " + both, b.least(both, both, -1), Check.BAD);
            C.due("20: one of them " + both, b.least(7, both, -1), Check.BAD);
        }
        for (int door : new int[] {-2, 2, 6, MIN, MAX}) {
            C.due("20: door " + door, b.least(0, 0, door), Check.BAD);
        }
        C.due("20: the first door", b.least(0, 0, 0), 0);
        C.due("20: the last door", b.least(0, 0, 1), 0);
        C.due("20: BAD ahead of NONE", b.least(4, 2, 2), Check.BAD);
        DoorBell none = new DoorBell();
        C.due("20: STATE", none.least(0, 0, -1), Check.STATE);
        C.due("20: STATE ahead of BAD sets", none.least(-1, 1, -1), Check.STATE);
        C.due("20: STATE ahead of a BAD door", none.least(0, 0, 0), Check.STATE);
        DoorBell nobody = Check.told("g0,0;d5;");
        C.due("20: a street without callers", nobody.least(0, 0, -1), 0);
        C.due("20: has nobody to tell", nobody.least(1, 0, -1), Check.BAD);
        C.due("20: has nobody to tell", nobody.least(0, 1, -1), Check.BAD);
        DoorBell six = Check.told("g0,0;d5;u0,5;u0,5;u0,5;u0,5;u0,5;u0,5;");
        C.due("20: six to meet", six.least(63, 0, -1), 0);
        C.due("20: six not to meet", six.least(0, 63, 0), 1);
        C.due("20: a seventh", six.least(64, 0, -1), Check.BAD);
    }

    private static void leastOrNone() {
        DoorBell b = Check.told("g0,0;d20;d1;p0,20;b0,20;u0,16;u0,17;");
        C.due("20: a postman can not", b.least(1, 0, -1), Check.NONE);
        C.due("20: nor at a door", b.least(1, 0, 0), Check.NONE);
        C.due("20: nor at another", b.least(1, 0, 1), Check.NONE);
        C.due("20: a bailiff can not but meet", b.least(0, 2, -1), Check.NONE);
        C.due("20: 16 and a cough are not 19", b.least(4, 0, -1), Check.NONE);
        C.due("20: 17 and a cough are", b.least(8, 0, -1), 1);
        C.due("20: a cough", b.least(8, 0, 0), 2);
        DoorBell bailiff = Check.told("g0,0;d20;d1;b0,13;b0,14;");
        C.due("20: 26 is less than 20 and 7", bailiff.least(0, 1, -1), 6);
        C.due("20: 5 seconds and a dog", bailiff.least(0, 1, 0) + bailiff.least(0, 1, 1), 21);
        C.due("20: 28 is not", bailiff.least(0, 2, -1), Check.NONE);
        DoorBell lover = Check.told("g0,0;d20;l0,20;l0,18;l0,17;l0,19;");
        C.due("20: seconds do not help a lover, nor keep it", lover.least(2, 0, 0), 2);
        C.due("20: one short of a cough", lover.least(4, 0, 0), 2);
        C.due("20: a dog keeps it", lover.least(0, 1, 0), 1);
    }

    private static void leastIsExact() {
        int[] seconds = {1, 2, 3, 4, 5, 6};
        for (int n : seconds) {
            // A guest who stays n - 1 seconds longer than the door takes: n more are needed, a dog is two of them.
            DoorBell b = Check.told("g0,0;d5;u0," + (4 + n) + ";");
            C.due("20: " + n + " more", b.least(0, 1, -1), n <= 2 ? 1 : n - 1);
            C.due("20: how", b.least(0, 1, 0), n <= 2 ? 1 : 4 * (n - 2) + 1);
        }
        DoorBell b = Check.told("g0,0;d5;u0,11;u0,12;");
        C.due("20: all five and a dog", b.least(0, 1, 0), 21);
        C.due("20: one more than that", b.least(0, 2, 0), Check.NONE);
        C.due("20: laws do not matter", b.least(0, 1, -1), 6);
        b.days(3);
        C.due("20: today, where they are", b.least(0, 1, -1), 6);
        DoorBell laid = Check.told("g60,12;d5;u0,5;");
        laid.stretch(0, 5);
        laid.sound(0, 1, 1);
        C.due("20: in place of what is laid", laid.least(1, 0, -1), 0);
        C.due("20: as if it were not", laid.least(0, 1, 0), 1);
        C.due("13: it stays", laid.door(0, 5), 12);
    }

    private static void leastOfSeveral() {
        DoorBell b = Check.told("g0,0;d5;d5;d5;d5;d5;d5;u0,5;u1,5;u2,5;u3,5;u4,5;u5,5;");
        int[] dog = {1, 2, 3, 4, 5, 5};
        for (int one = 0; one < 6; one++) {
            // A dog at its door or next to it: the first is the one whose earlier doors have the less.
            for (int door = 0; door < 6; door++) {
                C.due("20: caller " + one + " at " + door, b.least(0, 1 << one, door), door == dog[one] ? 1 : 0);
            }
        }
        DoorBell single = Check.told("g0,0;d5;u0,5;");
        C.due("20: a dog (1) is ahead of a second (4)", single.least(0, 1, 0), 1);
        DoorBell two = Check.told("g0,0;d5;d5;u0,5;k1,3;");
        C.due("20: a dog at the second door is ahead", two.least(0, 1, 1), 1);
        C.due("20: at the first nothing", two.least(0, 1, 0), 0);
    }

    private static void setsOfWhichDoor() {
        DoorBell b = Check.told("g0,0;d5;d5;u0,5;u1,5;u1,4;");
        for (int set : new int[] {8, 9, 64, 256, -1, -8, MIN, MAX}) {
            C.due("21: to meet " + set, b.whichDoor(set, 0), Check.BAD);
            C.due("21: not " + set, b.whichDoor(0, set), Check.BAD);
        }
        for (int both = 1; both <= 7; both++) {
            C.due("21: told as both " + both, b.whichDoor(both, both), Check.BAD);
            C.due("21: one of them " + both, b.whichDoor(both, 7), Check.BAD);
        }
        C.due("21: all callers", b.whichDoor(3, 4), Check.NONE);
        DoorBell none = new DoorBell();
        C.due("21: STATE", none.whichDoor(0, 0), Check.STATE);
        C.due("21: STATE ahead of BAD", none.whichDoor(1, 1), Check.STATE);
        C.due("21: STATE ahead of BAD", none.whichDoor(-1, MAX), Check.STATE);
        C.due("21: nobody", Check.told("g0,0;d5;").whichDoor(0, 0), Check.NONE);
        C.due("21: nobody to tell", Check.told("g0,0;d5;").whichDoor(1, 0), Check.BAD);
    }

    private static void whichDoorOrNone() {
        String doors = "g0,0;d9;d9;d9;d9;d9;d9;";
        for (int door = 0; door < 6; door++) {
            DoorBell b = Check.told(doors + "p" + door + ",20;p5,20;u" + door + ",9;");
            C.due("21: a postman at " + door, b.whichDoor(1, 0), door);
            C.due("21: the first of two", b.whichDoor(3, 0), door);
            C.due("21: the last alone", b.whichDoor(2, 0), 5);
            C.due("21: not told to meet", b.whichDoor(4, 3), Check.NONE);
        }
        // By itself the first may hear a dog, the second may not: together they can not, but neither is to blame.
        DoorBell b = Check.told("g0,0;d1;d3;p0,3;k0,3;k1,3;");
        C.due("20: together none", b.least(5, 2, -1), Check.NONE);
        C.due("21: alone each can", b.whichDoor(5, 2), Check.NONE);
        DoorBell next = Check.told("g0,0;d1;d1;p0,3;k0,3;");
        C.due("21: a dog of its own is heard, too", next.whichDoor(1, 2), Check.NONE);
        DoorBell alone = Check.told("g0,0;d1;p0,3;k0,3;");
        C.due("21: one door alone", alone.whichDoor(1, 2), Check.NONE);
        C.due("21: the child but not the postman", alone.whichDoor(2, 1), 0);
    }

    private static void whoOneToTwelve() {
        DoorBell b = Check.told("g0,0;d9;u0,0;");
        b.row(0, 0, 12);
        b.row(1, 0, 13);
        b.row(2, 0, 0);
        for (int n = 1; n <= 12; n++) {
            C.due("22: n " + n, b.who(0, 0, 0, n), ALL_KINDS);
            C.due("22: the last " + n, b.who(0, 0, 12 - n, n), ALL_KINDS);
            C.due("22: one beyond, " + n, b.who(0, 0, 13 - n, n), Check.PLACE);
        }
        C.due("22: n 0", b.who(0, 0, 0, 0), Check.BAD);
        C.due("22: n 13, though there are so many", b.who(0, 1, 0, 13), Check.BAD);
        for (int wrong : WILD) {
            C.due("22: n " + wrong, b.who(0, 0, 0, wrong), Check.BAD);
            C.due("22: place " + wrong, b.who(0, 0, wrong, 1), Check.PLACE);
            C.due("22: place " + wrong, b.who(0, 0, wrong, 12), Check.PLACE);
            C.due("22: caller " + wrong, b.who(wrong, 0, 0, 1), Check.BAD);
            C.due("22: row " + wrong, b.who(0, wrong, 0, 1), Check.BAD);
        }
        C.due("22: a row of none", b.who(0, 2, 0, 1), Check.PLACE);
        C.due("22: row 7 is missing", b.who(0, 7, 0, 1), Check.NULL);
        C.due("22: NULL ahead of PLACE", b.who(0, 7, -1, 1), Check.NULL);
        C.due("22: row 8", b.who(0, 8, 0, 1), Check.BAD);
        C.due("22: BAD caller ahead of NULL", b.who(1, 7, 0, 1), Check.BAD);
        C.due("22: BAD n ahead of NULL", b.who(0, 7, 0, 13), Check.BAD);
        C.due("22: BAD n ahead of PLACE", b.who(0, 0, -1, 0), Check.BAD);
        C.due("22: no street", new DoorBell().who(0, 0, 0, 1), Check.BAD);
    }

    private static void whoIsOneOrZero() {
        DoorBell b = Check.told("g0,0;d1;u0,1;");
        b.row(0, 2, 2);
        b.set(0, 0, 1);
        C.due("22: met", b.who(0, 0, 0, 1), ALL_KINDS);
        for (int other : new int[] {0, 2, -1, 257, MIN, MAX}) {
            b.set(0, 0, other);
            C.due("22: " + other + " is not met", b.who(0, 0, 0, 1), 0);
        }
        DoorBell never = Check.told("g0,0;d9;u0,0;");
        never.row(0, 2, 1);
        for (int other : new int[] {1, 2, -1, 256, MIN, MAX}) {
            never.set(0, 0, other);
            C.due("22: " + other + " is not not met", never.who(0, 0, 0, 1), 0);
        }
        DoorBell days = Check.told("g0,0;d20;d20;d20;d20;d20;d3;u0,3;");
        Check.fill(days, 0, 1, 0, 0, 0, 0, 0, 1, 1, 1, 1, 1, 1, 1);
        C.due("22: on the sixth day", days.who(0, 0, 0, 12), ALL_KINDS);
        days.set(0, 11, 0);
        C.due("22: but not on the last", days.who(0, 0, 0, 12), 0);
        C.due("22: one day fewer", days.who(0, 0, 0, 11), ALL_KINDS);
        days.days(5);
        C.due("22: from today", days.who(0, 0, 5, 6), ALL_KINDS);
        C.due("22: not from the first day", days.who(0, 0, 4, 6), 0);
    }

    private static void dueSleeps(String what, DoorBell b, int p, int above, int below) {
        C.due("23: above, " + what, b.sleeps(0, p, 0), above);
        C.due("23: below, " + what, b.sleeps(0, p, 1), below);
    }

    private static void sleepsZeroToTen() {
        DoorBell b = Check.told("g60,12;d5;d5;u0,5;");
        for (int p = 0; p <= 10; p++) {
            dueSleeps("whatever is laid, p " + p, b, p, 1, 1);
        }
        b.stretch(0, 1);
        int[] above = {0, 1, 1, 3, 2, 1, 3, 7, 4, 9, 1};
        int[] below = {1, 10, 5, 10, 5, 2, 5, 10, 5, 10, 1};
        for (int p = 0; p <= 10; p++) {
            dueSleeps("if he sleeps, p " + p, b, p, above[p], below[p]);
        }
        C.due("23: p 11", b.sleeps(0, 11, 0), Check.BAD);
        C.due("23: p 11", b.sleeps(0, 11, 1), Check.BAD);
        for (int wrong : WILD) {
            C.due("23: p " + wrong, b.sleeps(0, wrong, 0), Check.BAD);
            C.due("23: caller " + wrong, b.sleeps(wrong, 0, 0), Check.BAD);
            C.due("23: what " + wrong, b.sleeps(0, 0, wrong), Check.BAD);
        }
        C.due("23: what 2", b.sleeps(0, 0, 2), Check.BAD);
        C.due("23: behind the last caller", b.sleeps(1, 0, 0), Check.BAD);
        C.due("23: no street", new DoorBell().sleeps(0, 0, 0), Check.BAD);
        C.due("23: what is laid stays", b.door(0, 1), 1);
    }

    private static void sleepsInLowestTerms() {
        DoorBell never = Check.told("g60,12;d5;d5;d5;u1,0;");
        for (int p = 0; p <= 10; p++) {
            dueSleeps("0 is 0 by 1, p " + p, never, p, 0, 1);
        }
        DoorBell b = Check.told("g60,12;d5;d5;d5;u1,5;");
        b.sound(0, 1, 1);
        b.sound(1, 1, 1);
        b.sound(2, 1, 1);
        int[] above = {0, 1, 1, 27, 8, 1, 27, 343, 64, 729, 1};
        int[] below = {1, 1000, 125, 1000, 125, 8, 125, 1000, 125, 1000, 1};
        for (int p = 0; p <= 10; p++) {
            dueSleeps("three dogs, p " + p, b, p, above[p], below[p]);
        }
        DoorBell ends = Check.told("g60,12;d5;d5;d5;d5;u0,5;");
        ends.sound(0, 1, 1);
        ends.sound(2, 1, 1);
        ends.sound(3, 1, 1);
        dueSleeps("at the first door, one dog alone is heard", ends, 5, 1, 2);
        DoorBell last = Check.told("g60,12;d5;d5;d5;u2,5;");
        last.sound(0, 1, 1);
        last.sound(1, 1, 1);
        last.sound(2, 1, 1);
        dueSleeps("at the last door, two", last, 5, 1, 4);
    }

    private static void reachesAtTheEnds() {
        String six = "d5;d5;d5;d5;d5;d5;";
        int[] near = {0b11, 0b111, 0b1110, 0b11100, 0b111000, 0b110000};
        for (int doors = 1; doors <= 6; doors++) {
            DoorBell b = Check.told("g0,0;" + six.substring(0, 3 * doors));
            for (int door = 0; door < doors; door++) {
                C.due("24: of " + doors + " from " + door, b.reaches(door, 0), near[door] & (1 << doors) - 1);
                C.due("24: nobody", b.reaches(door, 1), 0);
            }
            C.due("24: behind the last", b.reaches(doors, 0), Check.BAD);
            C.due("24: behind the last", b.reaches(doors, 1), Check.BAD);
        }
        DoorBell b = Check.told("g0,2;" + six + "u0,5;u1,6;u2,7;u3,5;u0,4;u5,5;");
        for (int wrong : WILD) {
            C.due("24: door " + wrong, b.reaches(wrong, 0), Check.BAD);
            C.due("24: what " + wrong, b.reaches(0, wrong), Check.BAD);
        }
        C.due("24: what 2", b.reaches(0, 2), Check.BAD);
        C.due("24: no street", new DoorBell().reaches(0, 1), Check.BAD);
        b.sound(0, 1, 1);
        C.due("24: those who would meet without", b.reaches(0, 1), 0b000011);
        b.sound(0, 0, 1);
        C.due("24: one of them holds, one comes by the cough", b.reaches(0, 1), 0b010010);
        C.due("24: a door without sounds", b.reaches(1, 1), 0);
    }

    private static void ratherEightItems() {
        DoorBell b = new DoorBell();
        b.row(0, 0, 8);
        b.row(1, 0, 7);
        b.row(2, 0, 40);
        b.row(3, 0, 0);
        C.due("25: eight", b.rather(0, 0, 1), 15);
        C.due("25: seven", b.rather(1, 0, 1), Check.PLACE);
        C.due("25: none", b.rather(3, 0, 1), Check.PLACE);
        C.due("25: seven are left", b.rather(0, 1, 1), Check.PLACE);
        C.due("25: the last eight", b.rather(2, 32, 0), 4);
        C.due("25: one beyond", b.rather(2, 33, 0), Check.PLACE);
        for (int wrong : WILD) {
            C.due("25: place " + wrong, b.rather(0, wrong, 0), Check.PLACE);
            C.due("25: what " + wrong, b.rather(0, 0, wrong), Check.BAD);
            C.due("25: row " + wrong, b.rather(wrong, 0, 0), Check.BAD);
        }
        C.due("25: what 2", b.rather(0, 0, 2), Check.BAD);
        C.due("25: row 7", b.rather(7, 0, 0), Check.NULL);
        C.due("25: row 8", b.rather(8, 0, 0), Check.BAD);
        C.due("25: BAD what ahead of NULL", b.rather(7, 0, 2), Check.BAD);
        C.due("25: NULL ahead of PLACE", b.rather(7, 40, 0), Check.NULL);
        C.due("25: BAD what ahead of PLACE", b.rather(0, 1, 2), Check.BAD);
    }

    private static void ratherMinusTwentyToTwenty() {
        for (int lane = 0; lane <= 2; lane++) {
            DoorBell b = new DoorBell();
            b.row(0, lane, 10);
            for (int i = 0; i < 8; i++) {
                for (int item : new int[] {-20, 20}) {
                    b.set(0, i + 1, item);
                    C.due("25: " + item + " at " + i, b.rather(0, 1, 0) >= 0 ? 1 : 0, 1);
                }
                for (int item : new int[] {-21, 21, -128, 127}) {
                    b.set(0, i + 1, item);
                    C.due("25: " + item + " at " + i, b.rather(0, 1, 0), Check.BAD);
                    C.due("25: " + item + " at " + i, b.rather(0, 1, 1), Check.BAD);
                }
                b.set(0, i + 1, 0);
            }
            b.set(0, 0, 21);
            b.set(0, 9, 21);
            C.due("25: others of the row do not matter", b.rather(0, 1, 1), 15);
            C.due("25: PLACE ahead of the late BAD", b.rather(0, 3, 1), Check.PLACE);
            C.due("25: BAD of an item", b.rather(0, 2, 1), Check.BAD);
            b.set(0, 9, 256 + 5);
            C.due("25: as the lane keeps it", b.rather(0, 2, 0) >= 0 ? 1 : 0, lane == 0 ? 1 : 0);
        }
    }

    private static void ratherNotMoreIsEnough() {
        DoorBell b = new DoorBell();
        b.row(0, 0, 8);
        int[] loses = {2, 3, 0, 1, 5, 4, 7, 6};
        int[] bit = {2, 3, 0, 1, 1, 0, 3, 2};
        for (int i = 0; i < 8; i++) {
            C.due("25: as much is not more", b.rather(0, 0, 1), 15);
            b.set(0, i, 1);
            C.due("25: one more at " + i, b.rather(0, 0, 1), 15 & ~(1 << bit[i]));
            C.due("25: how many", b.rather(0, 0, 0), 3);
            b.set(0, loses[i], 1);
            C.due("25: the other way has as much", b.rather(0, 0, 1), 15);
            b.set(0, i, 0);
            b.set(0, loses[i], 0);
        }
    }

    private static void drawnZeroToSixty() {
        DoorBell b = Check.told("g0,0;d1;u0,20;u0,20;u0,0;");
        for (int n = 0; n <= 60; n++) {
            // The door opens behind 8 at most: two meet each day, the third only if it opens behind none.
            int met = b.drawn(n, 7, 0);
            C.due("26: two each of " + n, met >= 2 * n && met <= 3 * n ? 1 : 0, 1);
            C.due("26: one door", b.drawn(n, 7, 1), 0);
        }
        C.due("26: 61", b.drawn(61, 7, 0), Check.BAD);
        C.due("26: 61", b.drawn(61, 7, 1), Check.BAD);
        for (int wrong : WILD) {
            C.due("26: n " + wrong, b.drawn(wrong, 7, 0), Check.BAD);
            C.due("26: what " + wrong, b.drawn(0, 7, wrong), Check.BAD);
        }
        C.due("26: what 2", b.drawn(0, 7, 2), Check.BAD);
        C.due("26: nothing changes", b.count(5) + b.count(6) + b.count(7) + b.used(0) + b.used(1), 0);
        DoorBell none = new DoorBell();
        C.due("26: STATE", none.drawn(1, 1, 0), Check.STATE);
        C.due("26: STATE ahead of BAD", none.drawn(61, 1, 0), Check.STATE);
        C.due("26: STATE ahead of BAD", none.drawn(1, 0, 0), Check.STATE);
        C.due("26: STATE ahead of BAD", none.drawn(1, 1, 2), Check.STATE);
        DoorBell nobody = Check.told("g0,0;d1;d1;");
        C.due("26: nobody meets", nobody.drawn(60, 1, 0), 0);
        C.due("26: nobody is anywhere", nobody.drawn(60, 1, 1), 0);
        DoorBell met = Check.told("g0,0;d1;u0,20;");
        met.days(24);
        C.due("26: on these alone", met.drawn(3, 1, 0), 3);
    }

    private static void drawnSeeds() {
        DoorBell b = Check.told("g0,0;d5;d5;d5;d5;d5;d5;u0,5;");
        for (int seed : new int[] {0, -1, 1000000, MIN, MAX}) {
            C.due("26: seed " + seed, b.drawn(1, seed, 0), Check.BAD);
            C.due("26: seed " + seed + ", no days", b.drawn(0, seed, 1), Check.BAD);
        }
        // X = 16807: door 1, stretch 1, odd, no dog: nothing reaches door 0.
        C.due("26: seed 1", b.drawn(1, 1, 0), 1);
        C.due("26: seed 1, where", b.drawn(1, 1, 1), 0);
        // X = 1774597664: door 2, stretch 2, even, 2 left by 3: a cough at door 2 alone.
        C.due("26: seed 999999", b.drawn(1, 999999, 0), 1);
        C.due("26: seed 999999, where", b.drawn(1, 999999, 1), 0);
        for (int k = 0; k < 100; k++) {
            dueSeed(b, k + 1);
            dueSeed(b, 999999 - k);
        }
    }

    private static void dueSeed(DoorBell b, int seed) {
        int met = dueByDraw(seed * 16807L % 2147483647L);
        C.due("26: met by " + seed, b.drawn(1, seed, 0), met);
        C.due("26: where by " + seed, b.drawn(1, seed, 1), 1 - met);
    }

    /** Whether the one guest at DOOR 0, who stays as long as it takes, MEETS on a day drawn by X. */
    private static int dueByDraw(long x) {
        int door = (int) (x % 6);
        int cough = x % 2 == 0 && door == 0 ? 1 : 0;
        int heard = x % 3 == 0 && door <= 1 ? 1 : 0;
        int stretch = door == 0 ? (int) (x % 6) : 0;
        return 5 + stretch + 2 * heard - cough <= 5 + 2 * cough ? 1 : 0;
    }

    private static void kindsAndAs() {
        DoorBell b = Check.told("g0,0;d1;u0,1;l0,1;b0,1;p0,1;k0,1;");
        for (int one = 0; one < 5; one++) {
            C.due("29: kind", b.kind(one), one + 1);
            C.due("30: a CALLER", b.as(one, 0), one);
            C.due("30: itself", b.as(one, one + 1), one);
        }
        for (int wrong : WILD) {
            C.due("29: caller " + wrong, b.kind(wrong), Check.BAD);
            C.due("30: caller " + wrong, b.as(wrong, 0), Check.BAD);
            C.due("30: kind " + wrong, b.as(0, wrong), Check.BAD);
        }
        C.due("29: behind the last", b.kind(5), Check.BAD);
        C.due("30: behind the last", b.as(5, 0), Check.BAD);
        C.due("30: kind 6", b.as(0, 6), Check.BAD);
        C.due("30: a guest is no lover", b.as(0, 2), Check.KIND);
        C.due("30: a lover is a guest", b.as(1, 1), 1);
        C.due("30: a lover is no bailiff", b.as(1, 3), Check.KIND);
        C.due("30: a postman is no child", b.as(3, 5), Check.KIND);
        C.due("30: a child is a postman", b.as(4, 4), 4);
        C.due("30: a child is no guest", b.as(4, 1), Check.KIND);
        C.due("30: BAD ahead of KIND", b.as(5, 5), Check.BAD);
        C.due("29: no street", new DoorBell().kind(0), Check.BAD);
        C.due("30: no street", new DoorBell().as(0, 0), Check.BAD);
        C.due("31: no street", new DoorBell().ask(0, 0), Check.BAD);
    }

    private static void asksAndTrace() {
        DoorBell b = Check.told("g0,0;d1;d1;d1;d1;d1;d1;u5,20;l5,20;b5,20;p5,20;k5,20;k0,0;");
        int[] size = {25, -(20 + 12), 20 + 7 - 1000, -80, -160, -200};
        int[] mark = {5, 12, 7 - 1000, 3 + 80, 4 + 160, 5 + 200};
        int[] sizeTraced = {4, 6, 5, 2, 3, 3};
        int[] markTraced = {2, 3, 3, 4, 5, 5};
        C.due("32: nothing at first", b.trace(0), Check.NONE);
        for (int one = 0; one < 6; one++) {
            C.due("31: size of " + one, b.ask(one, 0), size[one]);
            C.due("32: as many and no more", Check.traced(b).length, sizeTraced[one]);
            C.due("31: mark of " + one, b.ask(one, 1), mark[one]);
            C.due("32: empty ahead of it", Check.traced(b).length, markTraced[one]);
        }
        b.ask(1, 0);
        C.due("32: the last of six", b.trace(5), 20);
        for (int i : new int[] {6, 15, 16, 17, -1, MIN, MAX}) {
            C.due("32: number " + i, b.trace(i), Check.NONE);
        }
        for (int wrong : WILD) {
            C.due("31: caller " + wrong, b.ask(wrong, 0), Check.BAD);
            C.due("31: what " + wrong, b.ask(0, wrong), Check.BAD);
        }
        C.due("31: what 2", b.ask(0, 2), Check.BAD);
        C.due("31: behind the last", b.ask(6, 0), Check.BAD);
        C.dueAll("32: what is refused leaves it", Check.traced(b), 12, 11, 10, 24, 21, 20);
    }
}
