/** The boundary cases of part 2 and of promises 9 to 17, 27, 28, 33: what is laid, DAYS, ACTS; both sides of each. */
public final class BoundsDoneTest {
    private static final Check C = new Check("BoundsDoneTest");
    private static final int MAX = Check.MAX, MIN = Check.MIN;
    private static final String SIX = "d9;d9;d9;d9;d9;d9;";

    public static void main(String[] args) {
        stretchZeroToFive();
        noMoreThanSeconds();
        noMoreThanSounds();
        soundsThatAreSo();
        heardNextDoor();
        opensBehindNoneAtLeast();
        postmanThreeAtMost();
        childOneAtMost();
        guestsLoversBailiffs();
        noLaterThanItStays();
        behindTheLastTheFirst();
        daysOneToTwentyFour();
        noMoreThan999();
        twentyFourActs();
        theOldestIsForgotten();
        theLatestFirst();
        whatIsNoAct();
        whatCanBeLookedAt();
        nothing();
        images();
        C.end();
    }

    private static void stretchZeroToFive() {
        DoorBell b = Check.told("g60,0;d1;d1;");
        int was = 0;
        for (int n : new int[] {0, 1, 5, 4, 0}) {
            C.due("10: stretch " + n, b.stretch(1, n), was);
            C.due("13: stretch " + n, b.door(1, 1), n);
            was = n;
        }
        for (int n : new int[] {-1, 6, MIN, MAX}) {
            C.due("10: stretch " + n, b.stretch(1, n), Check.BAD);
        }
        for (int door : new int[] {-1, 2, 6, MIN, MAX}) {
            C.due("10: door " + door, b.stretch(door, 1), Check.BAD);
        }
        C.due("13: none is laid by these", b.used(0), 0);
        C.due("10: no street", new DoorBell().stretch(0, 0), Check.BAD);
    }

    private static void noMoreThanSeconds() {
        for (int seconds = 0; seconds <= 31; seconds++) {
            DoorBell b = Check.told("g" + seconds + ",0;" + SIX);
            int left = seconds;
            for (int door = 0; door < 6; door++) {
                for (int n = 5; n > left; n--) {
                    C.due("10: " + n + " of " + left, b.stretch(door, n), Check.FULL);
                }
                C.due("10: as many as there are", b.stretch(door, Math.min(5, left)), 0);
                left -= Math.min(5, left);
                C.due("15: seconds", b.used(0), seconds - left);
            }
        }
        DoorBell b = Check.told("g5,0;d1;d1;");
        b.stretch(0, 3);
        C.due("10: what it has is not counted twice", b.stretch(0, 5), 3);
        C.due("10: so much again", b.stretch(0, 5), 5);
        C.due("10: none, though none are left", b.stretch(1, 0), 0);
        C.due("10: one more", b.stretch(1, 1), Check.FULL);
        C.due("10: BAD ahead of FULL", b.stretch(1, 6), Check.BAD);
        C.due("10: FULL leaves all", b.door(1, 1), 0);
        C.due("10: one less", b.stretch(0, 4), 5);
        C.due("10: one more then", b.stretch(1, 1), 0);
        C.due("10: seconds by undo", b.undo() + b.undo(), 5 + 4);
        C.due("10: none left again", b.stretch(1, 1), Check.FULL);
    }

    private static void noMoreThanSounds() {
        for (int sounds = 0; sounds <= 12; sounds++) {
            DoorBell b = Check.told("g0," + sounds + ";" + SIX);
            for (int k = 0; k < 12; k++) {
                int due = k < sounds ? k + 1 : Check.FULL;
                C.due("11: sound " + k + " of " + sounds, b.sound(k % 6, k / 6, 1), due);
                C.due("15: sounds", b.used(1), Math.min(k + 1, sounds));
                C.due("13: it is there", b.door(k % 6, 2 + k / 6), k < sounds ? 1 : 0);
            }
        }
        DoorBell b = Check.told("g0,1;d1;d1;");
        b.sound(0, 0, 1);
        C.due("11: FULL for a dog, too", b.sound(0, 1, 1), Check.FULL);
        C.due("11: to take away is never FULL", b.sound(0, 0, 0), 0);
        C.due("11: room again", b.sound(1, 1, 1), 1);
        b.undo();
        C.due("11: room by undo", b.sound(0, 1, 1), 1);
        C.due("11: BAD ahead of FULL", b.sound(2, 0, 1), Check.BAD);
    }

    private static void soundsThatAreSo() {
        DoorBell b = Check.told("g0,2;d1;d1;");
        for (int what = 0; what <= 1; what++) {
            C.due("11: none there, none wanted", b.sound(0, what, 0), Check.STATE);
            C.due("11: it comes", b.sound(0, what, 1), what + 1);
            C.due("11: STATE ahead of FULL", b.sound(0, what, 1), Check.STATE);
        }
        C.due("33: two acts", b.count(7), 2);
        for (int wrong : new int[] {-1, 2, MIN, MAX}) {
            C.due("11: what " + wrong, b.sound(0, wrong, 1), Check.BAD);
            C.due("11: on " + wrong, b.sound(0, 0, wrong), Check.BAD);
            C.due("11: door " + wrong, b.sound(wrong, 0, 1), Check.BAD);
        }
        C.due("15: sounds", b.used(1), 2);
        C.due("11: no street", new DoorBell().sound(0, 0, 1), Check.BAD);
    }

    private static void heardNextDoor() {
        for (int doors = 1; doors <= 6; doors++) {
            DoorBell b = Check.told("g0,12;" + SIX.substring(0, 3 * doors));
            for (int dog = 0; dog < doors; dog++) {
                b.sound(dog, 1, 1);
                for (int door = 0; door < doors; door++) {
                    int heard = Math.abs(door - dog) <= 1 ? 1 : 0;
                    String what = dog + " at " + door + " of " + doors;
                    C.due("13: heard, " + what, b.door(door, 4), heard);
                    C.due("13: opens, " + what, b.door(door, 5), 9 + 2 * heard);
                    C.due("13: a dog, " + what, b.door(door, 3), door == dog ? 1 : 0);
                    C.due("24: reaches, " + what, b.reaches(dog, 0) >> door & 1, heard);
                }
                b.sound(dog, 1, 0);
            }
        }
        DoorBell b = Check.told("g0,12;" + SIX);
        b.sound(0, 1, 1);
        b.sound(1, 1, 1);
        b.sound(2, 1, 1);
        C.due("13: three dogs are 2 more, not 6", b.door(1, 5), 11);
    }

    private static void opensBehindNoneAtLeast() {
        DoorBell b = Check.told("g60,12;d1;d2;");
        b.sound(0, 0, 1);
        b.sound(1, 0, 1);
        C.due("13: 1 less 1", b.door(0, 5), 0);
        C.due("13: 2 less 1", b.door(1, 5), 1);
        b.stretch(0, 1);
        C.due("13: and 1 more", b.door(0, 5), 1);
        DoorBell most = Check.told("g60,12;d20;");
        most.stretch(0, 5);
        most.sound(0, 1, 1);
        C.due("13: the latest", most.door(0, 5), 27);
    }

    private static void postmanThreeAtMost() {
        int[] patience = {0, 1, 2, 3, 4, 20};
        int[] stays = {0, 1, 2, 3, 3, 3};
        DoorBell b = Check.told("g60,12;d9;p0,0;p0,1;p0,2;p0,3;p0,4;p0,20;");
        for (int laid = 0; laid < 4; laid++) {
            for (int one = 0; one < 6; one++) {
                C.due("14: a postman of " + patience[one], b.caller(one, 2), stays[one]);
            }
            layNext(b, laid);
        }
    }

    /** STRETCH, a COUGH, a DOG, one behind the other: none of them makes a postman stay. */
    private static void layNext(DoorBell b, int laid) {
        if (laid == 0) {
            b.stretch(0, 5);
        } else if (laid < 3) {
            b.sound(0, laid - 1, 1);
        }
    }

    private static void childOneAtMost() {
        DoorBell b = Check.told("g60,12;d9;d9;d9;k0,0;k0,1;k0,2;k0,3;k0,4;k2,20;");
        int[] stays = {0, 1, 2, 3, 3, 3};
        int[] heard = {0, 1, 1, 1, 1, 3};
        for (int one = 0; one < 6; one++) {
            C.due("14: a child, no dog", b.caller(one, 2), stays[one]);
        }
        b.sound(0, 0, 1);
        b.stretch(0, 5);
        for (int one = 0; one < 6; one++) {
            C.due("14: a child, a cough", b.caller(one, 2), stays[one]);
        }
        b.sound(0, 1, 1);
        for (int one = 0; one < 6; one++) {
            C.due("14: a child, a dog", b.caller(one, 2), heard[one]);
        }
        b.sound(0, 1, 0);
        b.sound(1, 1, 1);
        C.due("14: a dog next door", b.caller(4, 2), 1);
        C.due("14: and on the other side", b.caller(5, 2), 1);
    }

    private static void guestsLoversBailiffs() {
        DoorBell b = Check.told("g60,12;d9;u0,0;l0,0;b0,0;u0,20;l0,20;b0,20;");
        dueStays("nothing laid", b, 0, 0, 0, 20, 20, 40);
        b.sound(0, 1, 1);
        dueStays("a dog", b, 0, 0, 0, 20, 20, 40);
        b.stretch(0, 5);
        dueStays("stretch", b, 0, 5, 0, 20, 25, 40);
        b.sound(0, 0, 1);
        dueStays("a cough, twice for a bailiff", b, 2, 7, 4, 22, 27, 44);
        b.stretch(0, 0);
        dueStays("a cough alone", b, 2, 2, 4, 22, 22, 44);
    }

    private static void dueStays(String what, DoorBell b, int... want) {
        for (int one = 0; one < want.length; one++) {
            C.due("14: caller " + one + ", " + what, b.caller(one, 2), want[one]);
        }
    }

    private static void noLaterThanItStays() {
        for (int opens = 1; opens <= 20; opens++) {
            DoorBell b = Check.told("g0,0;d" + opens + ";u0," + (opens - 1) + ";u0," + opens + ";b0," + opens / 2 + ";");
            C.due("14: one second short", b.caller(0, 3), 0);
            C.due("14: at the same second", b.caller(1, 3), 1);
            C.due("14: twice the half", b.caller(2, 3), opens % 2 == 0 ? 1 : 0);
            C.due("16: meets", b.meets(), opens % 2 == 0 ? 6 : 2);
        }
        DoorBell none = Check.told("g0,1;d1;u0,0;p0,0;k0,0;");
        C.due("16: none waits", none.meets(), 0);
        none.sound(0, 0, 1);
        C.due("16: opens at once", none.meets(), 7);
    }

    private static void behindTheLastTheFirst() {
        for (int doors = 1; doors <= 6; doors++) {
            DoorBell b = Check.told("g0,0;" + SIX.substring(0, 3 * doors) + "u" + (doors - 1) + ",0;u0,0;");
            b.days(1);
            C.due("12: behind the last", b.caller(0, 0), 0);
            C.due("12: behind the first", b.caller(1, 0), doors == 1 ? 0 : 1);
            C.due("18: one round", b.ahead(0, doors, 0), 0);
            b.undo();
            C.due("9: the last again", b.caller(0, 0), doors - 1);
            C.due("9: the first again", b.caller(1, 0), 0);
        }
        DoorBell stays = Check.told("g0,0;d9;d9;u1,9;");
        stays.days(1);
        C.due("12: who meets does not go on", stays.caller(0, 0), 1);
        stays.undo();
        C.due("9: nor back", stays.caller(0, 0), 1);
    }

    private static void daysOneToTwentyFour() {
        DoorBell b = Check.told("g0,0;d9;u0,9;");
        for (int n : new int[] {0, -1, 25, MIN, MAX}) {
            C.due("12: days " + n, b.days(n), Check.BAD);
        }
        C.due("33: day 0", b.count(5), 0);
        C.due("12: one", b.days(1), 1);
        C.due("33: day 1", b.count(5), 1);
        C.due("33: an act", b.count(7), 1);
        C.due("12: twenty-four", b.days(24), 1);
        C.due("33: day 25", b.count(5), 25);
        C.due("33: met", b.count(6), 25);
        C.due("33: acts", b.count(7), 24);
        DoorBell none = new DoorBell();
        for (int n : new int[] {0, 1, 24, 25, MIN, MAX}) {
            C.due("12: STATE ahead of BAD " + n, none.days(n), Check.STATE);
        }
        DoorBell last = Check.told("g0,0;d1;d9;u1,5;");
        C.due("12: of the first of them", last.days(1), 0);
        last.undo();
        C.due("12: of the last of them", last.days(2), 1);
    }

    private static DoorBell atDay(int day) {
        DoorBell b = Check.told("g0,0;d9;u0,9;");
        for (int gone = 0; gone < day; gone += Math.min(24, day - gone)) {
            b.days(Math.min(24, day - gone));
        }
        C.due("33: day", b.count(5), day);
        return b;
    }

    private static void noMoreThan999() {
        for (int n = 1; n <= 24; n++) {
            DoorBell b = atDay(999 - n);
            if (n < 24) {
                C.due("12: one more than 999 by " + n, b.days(n + 1), Check.FULL);
                C.due("12: FULL leaves the day", b.count(5), 999 - n);
            }
            C.due("12: 999 by " + n, b.days(n), 1);
            C.due("33: met", b.count(6), 999);
            C.due("12: 1000", b.days(1), Check.FULL);
            C.due("12: far beyond", b.days(24), Check.FULL);
            C.due("12: BAD ahead of FULL", b.days(25), Check.BAD);
            C.due("12: BAD ahead of FULL", b.days(0), Check.BAD);
            C.due("33: day 999", b.count(5), 999);
        }
        DoorBell b = atDay(999);
        C.due("33: acts", b.count(7), 24);
        C.due("9: the last day undone", b.undo(), 23);
        C.due("12: two are too many", b.days(2), Check.FULL);
        C.due("12: one is not", b.days(1), 1);
        C.due("18: foretold beyond", b.ahead(0, 60, 1), 1059);
        C.due("26: drawn beyond", b.drawn(0, 1, 0), 0);
    }

    private static void twentyFourActs() {
        DoorBell b = Check.told("g60,12;d9;");
        C.due("9: none at first", b.undo(), Check.STATE);
        for (int k = 1; k <= 30; k++) {
            b.stretch(0, k % 6);
            C.due("33: acts behind " + k, b.count(7), Math.min(k, 24));
        }
        for (int left = 23; left >= 0; left--) {
            C.due("9: can be undone yet", b.undo(), left);
            C.due("33: acts", b.count(7), left);
            C.due("13: stretch as it was", b.door(0, 1), (left + 6) % 6);
        }
        C.due("9: none", b.undo(), Check.STATE);
        C.due("13: the sixth stays", b.door(0, 1), 0);
        b.stretch(0, 3);
        C.due("33: one again", b.count(7), 1);
        C.due("9: undone", b.undo(), 0);
    }

    /** Each kind of ACT as the oldest of 24, which can be undone, and of 25, which can not. */
    private static void theOldestIsForgotten() {
        Check.Call[] oldest = {
            b -> b.stretch(1, 4), b -> b.sound(1, 0, 1), b -> b.sound(1, 1, 1), b -> b.days(1)
        };
        for (int kind = 0; kind < 4; kind++) {
            for (int more = 23; more <= 24; more++) {
                DoorBell b = Check.told("g60,12;d9;d9;u0,0;u1,9;");
                DoorBell before = Check.told("g60,12;d9;d9;u0,0;u1,9;");
                oldest[kind].of(b);
                if (more == 24) {
                    oldest[kind].of(before);
                }
                for (int k = 0; k < more; k++) {
                    b.stretch(0, k % 2);
                }
                C.due("33: acts", b.count(7), 24);
                for (int k = 0; k < 24; k++) {
                    C.due("9: undone", b.undo(), 23 - k);
                }
                C.due("9: no more", b.undo(), Check.STATE);
                if (more == 24) {
                    // The twin's act stays, but its ACTS are told anew by an image.
                    before.image(0);
                    before.restore(0);
                }
                boolean isSame = Check.seen(b).equals(Check.seen(before));
                C.due("9: the oldest of " + (more + 1) + ", kind " + kind, isSame ? 1 : 0, 1);
            }
        }
        DoorBell b = Check.told("g60,12;d9;d9;u0,0;u1,9;");
        b.stretch(0, 5);
        b.days(23);
        C.due("33: acts", b.count(7), 24);
        b.days(2);
        for (int k = 0; k < 24; k++) {
            b.undo();
        }
        C.due("9: a day is forgotten like any", b.count(5), 1);
        C.due("9: and stretch ahead of it", b.door(0, 1), 5);
    }

    private static void theLatestFirst() {
        Check.Call[] acts = {
            b -> b.stretch(0, 5), b -> b.sound(0, 0, 1), b -> b.days(3), b -> b.sound(1, 1, 1), b -> b.stretch(0, 2),
            b -> b.stretch(1, 0), b -> b.days(1), b -> b.sound(0, 0, 0), b -> b.days(2), b -> b.sound(1, 1, 0)
        };
        int[] many = {1, 1, 3, 1, 1, 1, 1, 1, 2, 1};
        for (int done = 0; done <= acts.length; done++) {
            DoorBell b = Check.told("g60,12;d5;d9;d3;u0,4;l1,6;b2,1;p1,9;k2,9;u2,0;");
            DoorBell part = Check.told("g60,12;d5;d9;d3;u0,4;l1,6;b2,1;p1,9;k2,9;u2,0;");
            for (int k = 0; k < acts.length; k++) {
                acts[k].of(b);
                if (k < done) {
                    acts[k].of(part);
                }
            }
            for (int k = acts.length - 1; k >= done; k--) {
                for (int n = 0; n < many[k]; n++) {
                    b.undo();
                }
            }
            C.due("9: back to " + done, Check.seen(b).equals(Check.seen(part)) ? 1 : 0, 1);
        }
    }

    private static void whatIsNoAct() {
        DoorBell b = Check.told("g1,1;d5;d9;u0,4;");
        b.row(0, 0, 12);
        b.row(1, 0, 8);
        Check.Call[] calls = {
            x -> x.stretch(0, 2), x -> x.stretch(0, 6), x -> x.sound(0, 0, 0), x -> x.sound(2, 0, 0), x -> x.days(0),
            x -> x.days(25), x -> x.meets(), x -> x.nothing(), x -> x.ahead(0, 60, 0), x -> x.soon(0),
            x -> x.least(1, 0, 0), x -> x.whichDoor(1, 0), x -> x.who(0, 0, 0, 12), x -> x.sleeps(0, 5, 0),
            x -> x.reaches(0, 1), x -> x.rather(1, 0, 0), x -> x.drawn(60, 5, 0), x -> x.image(0), x -> x.ask(0, 0),
            x -> x.as(0, 0), x -> x.feed('g'), x -> x.street(), x -> x.row(0, 0, 4), x -> x.drop(0)
        };
        for (int k = 0; k < calls.length; k++) {
            calls[k].of(b);
            C.due("33: no act by call " + k, b.count(7), 0);
        }
        C.due("9: none", b.undo(), Check.STATE);
    }

    private static void whatCanBeLookedAt() {
        DoorBell b = Check.told("g60,12;d9;d9;u0,0;u1,9;u1,3;");
        DoorBell none = new DoorBell();
        for (int wrong : new int[] {-1, MIN, MAX}) {
            C.due("13: door " + wrong, b.door(wrong, 0), Check.BAD);
            C.due("13: what " + wrong, b.door(0, wrong), Check.BAD);
            C.due("14: caller " + wrong, b.caller(wrong, 0), Check.BAD);
            C.due("14: what " + wrong, b.caller(0, wrong), Check.BAD);
            C.due("15: what " + wrong, b.used(wrong), Check.BAD);
            C.due("15: STATE ahead of BAD", none.used(wrong), Check.STATE);
            C.due("33: what " + wrong, b.count(wrong), Check.BAD);
            C.due("33: what " + wrong, none.count(wrong), Check.BAD);
        }
        C.due("13: the last door", b.door(1, 6), 6);
        C.due("13: behind the last", b.door(2, 6), Check.BAD);
        C.due("13: what 7", b.door(1, 7), Check.BAD);
        C.due("14: the last caller", b.caller(2, 4), 0);
        C.due("14: behind the last", b.caller(3, 4), Check.BAD);
        C.due("14: what 5", b.caller(2, 5), Check.BAD);
        C.due("15: what 2", b.used(2), Check.BAD);
        C.due("15: what 1", b.used(1), 0);
        C.due("15: STATE, what 2", none.used(2), Check.STATE);
        C.due("15: STATE, what 0", none.used(0), Check.STATE);
        C.due("33: what 8", b.count(8), 0);
        C.due("33: what 9", b.count(9), Check.BAD);
        for (int what = 0; what <= 7; what++) {
            C.due("13: no street", none.door(0, what), Check.BAD);
            C.due("14: no street", none.caller(0, what), Check.BAD);
        }
    }

    private static void nothing() {
        C.due("17: no street", new DoorBell().nothing(), Check.STATE);
        C.due("16: no street", new DoorBell().meets(), Check.STATE);
        C.due("17: nobody anywhere", Check.told("g0,0;" + SIX).nothing(), Check.NONE);
        C.due("16: nobody anywhere", Check.told("g0,0;" + SIX).meets(), 0);
        C.due("17: at the first", Check.told("g0,0;" + SIX + "u0,8;").nothing(), 0);
        C.due("17: at the last", Check.told("g0,0;" + SIX + "u5,8;u0,9;").nothing(), 5);
        C.due("17: one of two meets", Check.told("g0,0;" + SIX + "u5,8;u5,9;").nothing(), Check.NONE);
        C.due("17: neither of two", Check.told("g0,0;" + SIX + "u5,8;u5,8;").nothing(), 5);
        C.due("17: the first of two doors", Check.told("g0,0;" + SIX + "u5,8;u3,8;").nothing(), 3);
    }

    private static void images() {
        DoorBell b = new DoorBell();
        for (int k : new int[] {-1, 2, MIN, MAX}) {
            C.due("27: BAD ahead of STATE " + k, b.image(k), Check.BAD);
            C.due("28: BAD ahead of STATE " + k, b.restore(k), Check.BAD);
        }
        for (int k = 0; k <= 1; k++) {
            C.due("27: no street " + k, b.image(k), Check.STATE);
            C.due("28: none was kept " + k, b.restore(k), Check.STATE);
        }
        Check.read(b, "g5,5;d5;d5;u0,5;u0,3;");
        C.due("28: none was kept, with a street", b.restore(0), Check.STATE);
        b.days(1);
        C.due("27: the first", b.image(0), 1);
        C.due("28: the other was not", b.restore(1), Check.STATE);
        C.due("28: STATE leaves the acts", b.count(7), 1);
        b.days(1);
        C.due("27: the second", b.image(1), 1);
        C.due("28: the first", b.restore(0), 1);
        C.due("33: its day", b.count(5), 1);
        C.due("28: no act can be undone", b.undo(), Check.STATE);
        C.due("28: the second", b.restore(1), 1);
        C.due("33: its day", b.count(5), 2);
        b.stretch(0, 1);
        b.sound(1, 1, 1);
        C.due("28: what is laid is gone", b.restore(1), 1);
        C.due("15: seconds", b.used(0) + b.used(1), 0);
        Check.read(b, "g9,9;d1;");
        C.due("28: the street before", b.restore(0), 1);
        C.due("33: its callers", b.count(2), 2);
        C.due("33: its law", b.count(3), 5);
    }
}
