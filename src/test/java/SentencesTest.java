import java.math.BigInteger;
import java.util.List;
import java.util.function.Supplier;

/**
 * What the document says beside its numbers: objects of 512 calls, what stays, and that what is FORETOLD comes true
 * when it is done.
 */
public final class SentencesTest {
    private static final Check C = new Check("SentencesTest");
    private static final String SORTS = "ulbpk";
    /** So many calls Twins.inTheMidst makes. */
    private static final int CALLS_OF_THE_MIDST = 96;
    /** Ten at each of six doors. */
    private static final long ALL_CASES = 1000000;
    /** All laws are the widest, so that whatever is foretold can be laid. */
    private static final String[] STREETS = {
        "g60,12;d5;d3;d9;u0,4;l1,2;b2,5;p1,6;k0,9;",
        "g60,12;d4;d7;d2;u0,5;l1,6;p2,9;k1,3;",
        "g60,12;d1;u0,0;k0,1;p0,3;",
        "g60,12;d2;d3;d4;d5;d6;d7;l5,3;k3,9;p2,9;u1,4;b4,2;u0,1;",
        "g60,12;d20;d3;d20;d3;d20;d3;b0,9;l2,17;k4,3;p4,2;u2,20;l1,0;"
    };

    public static void main(String[] args) {
        the512thCall();
        objectsAreApart();
        foretoldChangesNothing();
        lookingChangesNothing();
        readingLeavesTheRest();
        imagesKeepTheStreet();
        restoringLeavesTheRest();
        aheadComesTrue();
        leastComesTrue();
        whichDoorIsTheFirst();
        whoTellsAllApart();
        whoComesTrue();
        sleepsBetweenAllAndNothing();
        reachesComesTrue();
        drawnComesTrue();
        drawnTakesAway();
        C.end();
    }

    // ---- what an object is

    /** "An object is used for at most 512 calls": each call of the face, as the 512th, answers as it does early. */
    private static void the512thCall() {
        Check.Call[] calls = {
            b -> b.row(5, 2, 40), b -> b.set(0, 0, 5), b -> b.copy(0, 0, 0, 1, 5), b -> b.drop(0), b -> b.feed('g'),
            b -> b.street(), b -> b.fault(), b -> b.undo(), b -> b.stretch(0, 3), b -> b.sound(1, 0, 1), b -> b.days(2),
            b -> b.door(0, 5), b -> b.caller(0, 2), b -> b.used(0), b -> b.meets(), b -> b.nothing(),
            b -> b.ahead(0, 60, 0), b -> b.soon(0), b -> b.least(1, 2, -1), b -> b.whichDoor(1, 2),
            b -> b.who(0, 0, 0, 1), b -> b.sleeps(0, 5, 0), b -> b.reaches(0, 0), b -> b.rather(1, 0, 1),
            b -> b.drawn(60, 5, 0), b -> b.image(1), b -> b.restore(0), b -> b.kind(2), b -> b.as(1, 1),
            b -> b.ask(1, 0), b -> b.trace(0), b -> b.count(7), b -> b.status()
        };
        for (int k = 0; k < calls.length; k++) {
            long early = calls[k].of(Twins.inTheMidst());
            DoorBell b = Twins.inTheMidst();
            for (int made = CALLS_OF_THE_MIDST; made < 511; made++) {
                b.count(made % 10);
            }
            C.due("the 512th, call " + k, calls[k].of(b), early);
        }
    }

    private static void objectsAreApart() {
        DoorBell one = Twins.inTheMidst();
        List<Long> before = Check.seen(one);
        DoorBell other = Twins.full();
        DoorBell third = new DoorBell();
        for (int k = 0; k < 24; k++) {
            other.undo();
        }
        Check.read(third, "g1,1;d1;u0,1;");
        third.row(0, 2, 40);
        third.ask(0, 0);
        third.image(0);
        C.due("1: another object leaves it", Check.seen(one).equals(before) ? 1 : 0, 1);
        C.due("28: an image of its own", new DoorBell().restore(0), Check.STATE);
        C.due("5: rows of its own", one.drop(0), 10);
    }

    private static void dueAlike(String what, Supplier<DoorBell> one, Supplier<DoorBell> other) {
        C.due(what, Twins.probe(one).equals(Twins.probe(other)) ? 1 : 0, 1);
    }

    private static void dueUnchanged(String what, Check.Call[] calls) {
        for (int k = 0; k < calls.length; k++) {
            C.due(what + " " + k + " is answered", calls[k].of(Twins.inTheMidst()) >= Check.NONE ? 1 : 0, 1);
            dueAlike(what + " " + k + " changes nothing", Twins.behind(Twins::inTheMidst, calls[k]), Twins::inTheMidst);
        }
    }

    private static void foretoldChangesNothing() {
        dueUnchanged("foretold", new Check.Call[] {
            b -> b.meets(), b -> b.nothing(), b -> b.ahead(0, 60, 0), b -> b.ahead(4, 60, 1), b -> b.soon(1),
            b -> b.least(1, 2, -1), b -> b.least(3, 4, 0), b -> b.least(31, 0, 1), b -> b.whichDoor(31, 0),
            b -> b.who(0, 0, 0, 10), b -> b.sleeps(0, 5, 0), b -> b.sleeps(3, 10, 1), b -> b.reaches(2, 0),
            b -> b.reaches(2, 1), b -> b.reaches(0, 1), b -> b.rather(1, 0, 0), b -> b.rather(1, 0, 1),
            b -> b.drawn(60, 999999, 0), b -> b.drawn(1, 6, 1)
        });
    }

    private static void lookingChangesNothing() {
        dueUnchanged("looking", new Check.Call[] {
            b -> b.fault(), b -> b.door(0, 5), b -> b.door(2, 6), b -> b.caller(4, 2), b -> b.used(0), b -> b.used(1),
            b -> b.kind(4), b -> b.as(4, 4), b -> b.as(1, 1), b -> b.trace(0), b -> b.trace(15), b -> b.count(0),
            b -> b.count(8), b -> b.status()
        });
    }

    // ---- what stays

    /** A STREET that is read takes the place of the one before, and of nothing else. */
    private static void readingLeavesTheRest() {
        DoorBell b = Twins.inTheMidst();
        int[] trace = Check.traced(b);
        int fault = b.fault();
        C.due("7: read", b.street(), 1);
        C.dueAll("32: THE TRACE stays", Check.traced(b), trace);
        C.due("8: the latest FAULT stays", b.fault(), fault);
        C.due("34: status stays", b.status(), Twins.STATUS);
        C.due("33: ROWS stay", b.count(0), 4);
        C.due("28: images stay", b.restore(0), 1);
        C.due("33: the day of the image", b.count(5), 2);
        C.due("5: how many items", b.drop(0), 10);
    }

    private static DoorBell kept() {
        DoorBell b = Twins.inTheMidst();
        b.image(1);
        return b;
    }

    private static void imagesKeepTheStreet() {
        Check.Call[] changes = {
            b -> b.stretch(0, 2), b -> b.sound(1, 0, 1), b -> b.sound(2, 1, 0), b -> b.days(24), b -> b.undo(),
            b -> b.restore(0), b -> b.image(0), b -> b.drawn(60, 5, 0)
        };
        for (int k = 0; k < changes.length; k++) {
            DoorBell b = kept();
            DoorBell twin = kept();
            changes[k].of(b);
            C.due("28: behind change " + k, b.restore(1), 1);
            twin.restore(1);
            C.due("28: as it was kept, change " + k, Check.seen(b).equals(Check.seen(twin)) ? 1 : 0, 1);
        }
        DoorBell b = Check.told(STREETS[4]);
        lay(b);
        b.days(7);
        List<Long> before = Check.seen(b);
        b.image(0);
        b.days(24);
        Check.read(b, STREETS[2]);
        b.image(1);
        C.due("28: the whole", b.restore(0), 1);
        before.set(7, 0L);
        C.due("28: but for the acts, all", Check.seen(b).equals(before) ? 1 : 0, 1);
        C.due("26: draws are as before", b.drawn(60, 77, 0), drawnOf(STREETS[4], 7));
    }

    private static int drawnOf(String street, int days) {
        DoorBell b = Check.told(street);
        lay(b);
        b.days(days);
        return b.drawn(60, 77, 0);
    }

    private static void restoringLeavesTheRest() {
        DoorBell b = Twins.inTheMidst();
        int[] trace = Check.traced(b);
        int fault = b.fault();
        int bytes = b.count(8);
        C.due("28: restored", b.restore(0), 1);
        C.dueAll("32: THE TRACE stays", Check.traced(b), trace);
        C.due("8: the latest FAULT stays", b.fault(), fault);
        C.due("33: the tape stays", b.count(8), bytes);
        C.due("34: status stays", b.status(), Twins.STATUS);
        C.due("33: ROWS stay", b.count(0), 4);
        C.due("28: the other image is none yet", b.restore(1), Check.STATE);
        C.due("28: once more", b.restore(0), 1);
    }

    // ---- what is foretold comes true

    /** Something at every DOOR, of each sort now and then. */
    private static void lay(DoorBell b) {
        for (int door = 0; door < b.count(1); door++) {
            b.stretch(door, (2 * door + 1) % 6);
            if (door % 2 == 0) {
                b.sound(door, 0, 1);
            }
            if (door % 3 == 1) {
                b.sound(door, 1, 1);
            }
        }
    }

    private static DoorBell laid(String street, boolean isLaid) {
        DoorBell b = Check.told(street);
        if (isLaid) {
            lay(b);
        }
        return b;
    }

    private static void aheadComesTrue() {
        for (int k = 0; k < 2 * STREETS.length; k++) {
            String street = STREETS[k / 2];
            for (int one = 0; one < Check.told(street).count(2); one++) {
                for (int n = 1; n <= 24; n++) {
                    DoorBell b = laid(street, k % 2 == 1);
                    int place = b.ahead(one, n, 0);
                    int met = b.ahead(one, n, 1);
                    int soon = b.soon(one);
                    int behind = b.days(n);
                    C.due("18: the door comes true", b.caller(one, 0), place);
                    C.due("18: how often comes true", b.caller(one, 4), met);
                    boolean hasMet = soon != Check.NONE && soon < n;
                    C.due("19: by then it has met", b.caller(one, 4) > 0 ? 1 : 0, hasMet ? 1 : 0);
                    C.due("12: on the last of them", behind >> one & 1, hasMet ? 1 : 0);
                }
            }
        }
    }

    /** What LEAST tells, laid by hand: those meet, the others do not, and as much is used as was told. */
    private static void leastComesTrue() {
        for (String street : STREETS) {
            int sets = 1 << Check.told(street).count(2);
            for (int meet = 0; meet < sets; meet++) {
                int not = sets - 1 & ~meet;
                DoorBell b = Check.told(street);
                int most = b.least(meet, not, -1);
                boolean isNone = most == Check.NONE;
                for (int door = 0; door < b.count(1) && !isNone; door++) {
                    int code = b.least(meet, not, door);
                    b.stretch(door, code >> 2);
                    layBit(b, door, 0, code >> 1 & 1);
                    layBit(b, door, 1, code & 1);
                }
                if (!isNone) {
                    C.due("20: who meets by it", b.meets(), meet);
                    C.due("20: how many", b.used(0) + b.used(1), most);
                    C.due("21: then no door is in the way", b.whichDoor(meet, not), Check.NONE);
                }
                int today = Check.told(street).meets();
                C.due("20: none are needed", most == 0 ? 1 : 0, meet == today ? 1 : 0);
            }
        }
    }

    private static void layBit(DoorBell b, int door, int what, int on) {
        if (b.door(door, 2 + what) != on) {
            b.sound(door, what, on);
        }
    }

    /** A DOOR can not, if LEAST is NONE for its callers alone; of these the first. */
    private static void whichDoorIsTheFirst() {
        for (String street : STREETS) {
            int sets = 1 << Check.told(street).count(2);
            for (int meet = 0; meet < sets; meet++) {
                int not = sets - 1 & ~meet;
                DoorBell b = Check.told(street);
                int first = Check.NONE;
                for (int door = b.count(1) - 1; door >= 0; door--) {
                    int there = b.door(door, 6);
                    first = b.least(meet & there, not & there, -1) == Check.NONE ? door : first;
                }
                C.due("21: the first by itself", b.whichDoor(meet, not), first);
            }
        }
    }

    private static void whoTellsAllApart() {
        // Of patience 3 a guest, a postman and a child stay 3, a lover as much longer as is laid, a bailiff 6.
        DoorBell b = Check.told("g60,12;d2;d3;d6;d3;u0,3;");
        b.stretch(0, 5);
        b.stretch(1, 2);
        // So the doors open behind 7, 5, 6, 3.
        Check.fill(b, 0, 0, 1, 1, 1, 1);
        C.due("22: a lover at once", b.who(0, 0, 0, 4), 4);
        Check.fill(b, 0, 0, 0, 1, 1, 1);
        C.due("22: a bailiff on the next day", b.who(0, 0, 0, 4), 8);
        Check.fill(b, 0, 0, 0, 0, 0, 1);
        C.due("22: all others on the fourth", b.who(0, 0, 0, 4), 2 + 16 + 32);
        DoorBell c = Check.told("g60,12;d3;d9;u0,1;");
        c.sound(0, 0, 1);
        Check.fill(c, 0, 0, 1);
        C.due("22: a cough keeps a guest, not a postman", c.who(0, 0, 0, 1), 2 + 4 + 8);
        DoorBell d = Check.told("g60,12;d1;d9;u0,3;");
        d.sound(1, 1, 1);
        Check.fill(d, 0, 0, 0, 0);
        C.due("22: a dog next door drives a child away, no postman", d.who(0, 0, 0, 2), 32);
    }

    /** The same street told with another SORT: a row of what happens there names that KIND. */
    private static void whoComesTrue() {
        for (int k = 0; k < 2 * STREETS.length; k++) {
            String street = STREETS[k / 2];
            int callers = Check.told(street).count(2);
            for (int one = 0; one < callers; one++) {
                int[] told = new int[6];
                for (int kind = 1; kind <= 5; kind++) {
                    told[kind] = metDays(laid(withSort(street, one, SORTS.charAt(kind - 1)), k % 2 == 1), one);
                }
                for (int kind = 1; kind <= 5; kind++) {
                    int due = 0;
                    for (int other = 1; other <= 5; other++) {
                        due |= told[other] == told[kind] ? 1 << other : 0;
                    }
                    DoorBell b = laid(street, k % 2 == 1);
                    b.row(3, 1, 12);
                    for (int day = 0; day < 12; day++) {
                        b.set(3, day, told[kind] >> day & 1);
                    }
                    C.due("22: caller " + one + " as " + kind + " of " + street, b.who(one, 3, 0, 12), due);
                }
            }
        }
    }

    private static int metDays(DoorBell b, int one) {
        int days = 0;
        for (int day = 0; day < 12; day++) {
            days |= (b.days(1) >> one & 1) << day;
        }
        return days;
    }

    private static String withSort(String street, int one, char sort) {
        StringBuilder text = new StringBuilder(street);
        int seen = 0;
        for (int k = 0; k < text.length(); k++) {
            if (SORTS.indexOf(text.charAt(k)) >= 0 && seen++ == one) {
                text.setCharAt(k, sort);
            }
        }
        return text.toString();
    }

    /** In no case asleep: as it is laid. In all: as if nothing were. Between: by all ways to sleep, weighed. */
    private static void sleepsBetweenAllAndNothing() {
        for (String street : STREETS) {
            DoorBell bare = Check.told(street);
            for (int one = 0; one < bare.count(2); one++) {
                DoorBell b = laid(street, true);
                dueFraction("23: he never sleeps", b, one, 0, b.caller(one, 3), 1);
                dueFraction("23: he always sleeps", b, one, 10, bare.caller(one, 3), 1);
                for (int p = 1; p <= 9; p += 2) {
                    dueFraction("23: he sleeps in " + p, b, one, p, casesOfAll(street, one, p), ALL_CASES);
                }
            }
        }
    }

    /** As if there were six doors at each street: those that are not there weigh as much asleep as awake. */
    private static long casesOfAll(String street, int one, int p) {
        long cases = 0;
        for (int asleep = 0; asleep < 1 << 6; asleep++) {
            cases += weight(asleep, p) * laidAwake(street, asleep).caller(one, 3);
        }
        return cases;
    }

    private static void dueFraction(String what, DoorBell b, int one, int p, long above, long below) {
        long gotAbove = b.sleeps(one, p, 0);
        long gotBelow = b.sleeps(one, p, 1);
        C.due(what + ": as much", gotAbove * below, above * gotBelow);
        long shared = BigInteger.valueOf(gotAbove).gcd(BigInteger.valueOf(gotBelow)).longValue();
        C.due(what + ": in lowest terms", shared, 1);
    }

    private static long weight(int asleep, int p) {
        long weight = 1;
        for (int door = 0; door < 6; door++) {
            weight *= (asleep >> door & 1) == 1 ? p : 10 - p;
        }
        return weight;
    }

    private static DoorBell laidAwake(String street, int asleep) {
        DoorBell b = laid(street, true);
        for (int door = 0; door < b.count(1); door++) {
            if ((asleep >> door & 1) == 1) {
                b.stretch(door, 0);
                layBit(b, door, 0, 0);
                layBit(b, door, 1, 0);
            }
        }
        return b;
    }

    private static void reachesComesTrue() {
        for (String street : STREETS) {
            for (int door = 0; door < Check.told(street).count(1); door++) {
                DoorBell b = laid(street, true);
                int reached = b.reaches(door, 1);
                int with = b.meets();
                layBit(b, door, 0, 0);
                layBit(b, door, 1, 0);
                C.due("24: who changes without its sounds", reached, with ^ b.meets());
                int doors = b.reaches(door, 0);
                for (int other = 0; other < b.count(1); other++) {
                    layBit(b, other, 1, 0);
                }
                b.sound(door, 1, 1);
                for (int other = 0; other < b.count(1); other++) {
                    C.due("24: where a dog is heard", doors >> other & 1, b.door(other, 4));
                }
            }
        }
    }

    /** What is drawn, laid by hand day by day: as many meet, and all are where it was told. */
    private static void drawnComesTrue() {
        for (int k = 0; k < 2 * STREETS.length; k++) {
            for (int seed : new int[] {1, 2, 3, 42, 65537, 999999}) {
                DoorBell told = laid(STREETS[k / 2], k % 2 == 1);
                DoorBell b = laid(STREETS[k / 2], k % 2 == 1);
                long x = seed;
                int met = 0;
                for (int n = 0; n <= 60; n++) {
                    C.due("26: how often by " + n, told.drawn(n, seed, 0), met);
                    C.due("26: where by " + n, told.drawn(n, seed, 1), placesAdded(b));
                    x = x * 16807 % 2147483647;
                    int door = (int) (x % b.count(1));
                    b.stretch(door, (int) (x % 6));
                    layBit(b, door, 0, x % 2 == 0 ? 1 : 0);
                    layBit(b, door, 1, x % 3 == 0 ? 1 : 0);
                    met += Integer.bitCount(b.days(1));
                    if (n % 20 == 19) {
                        b = asNew(b, STREETS[k / 2]);
                    }
                }
            }
        }
    }

    private static int placesAdded(DoorBell b) {
        int sum = 0;
        for (int one = 0; one < b.count(2); one++) {
            sum += b.caller(one, 0);
        }
        return sum;
    }

    /** The same with a new object, so that none is used for more than 512 calls: doors told anew, sounds laid anew. */
    private static DoorBell asNew(DoorBell b, String street) {
        String text = street.substring(0, firstCaller(street));
        StringBuilder callers = new StringBuilder(text);
        for (int one = 0; one < b.count(2); one++) {
            callers.append(SORTS.charAt(b.kind(one) - 1)).append(b.caller(one, 0)).append(',');
            callers.append(b.caller(one, 1)).append(';');
        }
        DoorBell anew = Check.told(callers.toString());
        for (int door = 0; door < b.count(1); door++) {
            anew.stretch(door, b.door(door, 1));
            layBit(anew, door, 0, b.door(door, 2));
            layBit(anew, door, 1, b.door(door, 3));
        }
        return anew;
    }

    private static int firstCaller(String street) {
        int first = 0;
        while (SORTS.indexOf(street.charAt(first)) < 0) {
            first++;
        }
        return first;
    }

    /** Seed 1, X = 16807 (odd, 1 left by 3, 1 left by 6): a COUGH and a DOG that were there are taken away. */
    private static void drawnTakesAway() {
        DoorBell b = Check.told("g60,12;d5;u0,5;u0,6;");
        C.due("26: one more second, by draw", b.drawn(1, 1, 0), 1);
        b.stretch(0, 5);
        b.sound(0, 1, 1);
        C.due("26: in place of five and a dog", b.drawn(1, 1, 0), 1);
        b.sound(0, 0, 1);
        b.sound(0, 1, 0);
        C.due("26: a cough is taken away", b.drawn(1, 1, 0), 1);
        DoorBell next = Check.told("g60,12;d5;d5;u0,3;");
        next.sound(0, 0, 1);
        C.due("26: at another door what is laid stays", next.drawn(1, 1, 0), 1);
    }
}
