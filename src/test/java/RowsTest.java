/** Promises 2 to 5 and 34: ROWS, and what status() tells of them. */
public final class RowsTest {
    private static final Check C = new Check("RowsTest");
    private static final int MAX = Integer.MAX_VALUE, MIN = Integer.MIN_VALUE;

    public static void main(String[] args) {
        rowBegins();
        setNarrows();
        copyMoves();
        dropLeavesNothing();
        statusTellsTheLatest();
        C.end();
    }

    private static void rowBegins() {
        DoorBell b = new DoorBell();
        C.due("2: status at first", b.status(), 0);
        C.due("2: a row of 40", b.row(7, 2, 40), 40);
        C.due("2: a row of none", b.row(0, 0, 0), 0);
        C.due("2: rows there", b.count(0), 2);
        C.due("2: above 40", b.row(0, 0, 41), Check.BAD);
        C.due("2: row -1", b.row(-1, 0, 1), Check.BAD);
        C.due("2: row 8", b.row(8, 0, 1), Check.BAD);
        C.due("2: lane 3", b.row(0, 3, 1), Check.BAD);
        C.due("2: lane -1", b.row(0, -1, 1), Check.BAD);
        C.due("2: BAD ahead of SIZE", b.row(0, 3, -1), Check.BAD);
        C.due("2: SIZE", b.row(7, 0, -1), Check.SIZE);
        C.due("2: SIZE, far below", b.row(7, 0, MIN), Check.SIZE);
        C.due("2: far above", b.row(7, 0, MAX), Check.BAD);
        C.due("2: SIZE leaves the row", b.set(7, 39, 5), 5);
        C.due("2: in place of what is there", b.row(7, 2, 40), 40);
        C.due("2: items are 0 again", b.copy(7, 39, 7, 0, 1), 1);
        Check.fill(b, 1, 2, 20, 20, 20, 20, 20, 20, 20, 20);
        C.due("2: before", b.rather(1, 0, 1), 15);
        b.set(1, 0, 19);
        C.due("2: 19 is less than 20", b.rather(1, 0, 1), 14);
        b.row(1, 2, 8);
        C.due("2: all 0 in a row made anew", b.rather(1, 0, 1), 15);
    }

    private static void setNarrows() {
        DoorBell b = new DoorBell();
        b.row(0, 0, 3);
        b.row(1, 1, 3);
        b.row(2, 2, 3);
        C.due("3: byte 127", b.set(0, 0, 127), 127);
        C.due("3: byte 128", b.set(0, 0, 128), -128);
        C.due("3: byte 256", b.set(0, 0, 256), 0);
        C.due("3: byte -129", b.set(0, 0, -129), 127);
        C.due("3: short 128", b.set(1, 2, 128), 128);
        C.due("3: short 32768", b.set(1, 2, 32768), -32768);
        C.due("3: short -32769", b.set(1, 2, -32769), 32767);
        C.due("3: short 65536", b.set(1, 2, 65536), 0);
        C.due("3: int", b.set(2, 2, MIN), MIN);
        C.due("3: int", b.set(2, 2, MAX), MAX);
        C.due("3: row 8", b.set(8, 0, 0), Check.BAD);
        C.due("3: row -1", b.set(-1, 0, 0), Check.BAD);
        C.due("3: NULL ahead of PLACE", b.set(3, -1, 0), Check.NULL);
        C.due("3: place -1", b.set(0, -1, 0), Check.PLACE);
        C.due("3: place 3", b.set(0, 3, 0), Check.PLACE);
        C.due("3: place MAX", b.set(0, MAX, 0), Check.PLACE);
        C.due("3: place MIN", b.set(0, MIN, 0), Check.PLACE);
        b.row(4, 0, 0);
        C.due("3: a row of none", b.set(4, 0, 0), Check.PLACE);
    }

    /** Items can be looked at only through rather and who: a row of 1 to 8 is told by its ways. */
    private static void copyMoves() {
        DoorBell b = new DoorBell();
        Check.fill(b, 0, 0, 1, 2, 3, 4, 5, 6, 7, 8, 9, 10);
        C.due("4: onto itself, forward", b.copy(0, 0, 0, 1, 9), 9);
        dueItems("4: forward", b, 0, 1, 1, 2, 3, 4, 5, 6, 7, 8, 9);
        Check.fill(b, 0, 0, 1, 2, 3, 4, 5, 6, 7, 8, 9, 10);
        C.due("4: onto itself, backward", b.copy(0, 1, 0, 0, 9), 9);
        dueItems("4: backward", b, 0, 2, 3, 4, 5, 6, 7, 8, 9, 10, 10);
        b.row(1, 0, 12);
        C.due("4: to another", b.copy(0, 8, 1, 10, 2), 2);
        dueItems("4: other", b, 1, 0, 0, 0, 0, 0, 0, 0, 0, 0, 0, 10, 10);
        C.due("4: none at the ends", b.copy(0, 10, 1, 12, 0), 0);
        C.due("4: i beyond", b.copy(0, 11, 1, 0, 0), Check.PLACE);
        C.due("4: j beyond", b.copy(0, 0, 1, 13, 0), Check.PLACE);
        C.due("4: i and n beyond", b.copy(0, 1, 1, 0, 10), Check.PLACE);
        C.due("4: j and n beyond", b.copy(0, 0, 1, 3, 10), Check.PLACE);
        C.due("4: i below", b.copy(0, -1, 1, 0, 1), Check.PLACE);
        C.due("4: j below", b.copy(0, 0, 1, -1, 1), Check.PLACE);
        C.due("4: n below", b.copy(0, 1, 1, 1, -1), Check.PLACE);
        C.due("4: sums that wrap", b.copy(0, MAX, 1, 0, MAX), Check.PLACE);
        C.due("4: sums that wrap", b.copy(0, 0, 1, MAX, 1), Check.PLACE);
        C.due("4: row a", b.copy(8, 0, 1, 0, 1), Check.BAD);
        C.due("4: row b", b.copy(0, 0, -1, 0, 1), Check.BAD);
        C.due("4: BAD ahead of NULL", b.copy(5, 0, 8, 0, 1), Check.BAD);
        C.due("4: NULL a", b.copy(5, 0, 0, 0, 1), Check.NULL);
        C.due("4: NULL b", b.copy(0, 0, 5, 0, 1), Check.NULL);
        b.row(2, 1, 2);
        C.due("4: STORE ahead of PLACE", b.copy(0, -1, 2, 0, 1), Check.STORE);
        C.due("4: STORE of none", b.copy(0, 0, 2, 0, 0), Check.STORE);
        C.due("4: NULL ahead of STORE", b.copy(2, 0, 5, -1, 0), Check.NULL);
        dueItems("4: what is found changes nothing", b, 0, 2, 3, 4, 5, 6, 7, 8, 9, 10, 10);
    }

    /** An item is told by copying it beside seven others of a game, the first way of which it decides. */
    private static void dueItems(String what, DoorBell b, int row, int... want) {
        for (int i = 0; i < want.length; i++) {
            Check.fill(b, 7, 0, 0, 0, want[i], 0, 0, 0, 0, 0);
            b.copy(row, i, 7, 0, 1);
            C.due(what + " item " + i, b.rather(7, 0, 1), 15);
        }
    }

    private static void dropLeavesNothing() {
        DoorBell b = new DoorBell();
        b.row(3, 1, 17);
        C.due("5: how many it had", b.drop(3), 17);
        C.due("5: rows there", b.count(0), 0);
        C.due("5: NULL", b.drop(3), Check.NULL);
        C.due("5: set finds NULL", b.set(3, 0, 1), Check.NULL);
        C.due("5: row 8", b.drop(8), Check.BAD);
        C.due("5: row -1", b.drop(-1), Check.BAD);
        b.row(3, 0, 0);
        C.due("5: a row of none is there", b.drop(3), 0);
    }

    private static void statusTellsTheLatest() {
        DoorBell b = Check.told("g5,5;d5;u0,5;");
        b.row(0, 0, -1);
        C.due("34: SIZE", b.status(), 4);
        b.row(8, 0, 1);
        C.due("34: BAD leaves it", b.status(), 4);
        b.row(0, 0, 1);
        C.due("34: none", b.status(), 0);
        b.set(0, 1, 1);
        C.due("34: PLACE", b.status(), 2);
        b.feed('x');
        b.street();
        b.stretch(0, 5);
        b.meets();
        b.soon(0);
        C.due("34: others leave it", b.status(), 2);
        C.due("34: set", b.set(0, 0, 1), 1);
        C.due("34: none by set", b.status(), 0);
        b.drop(1);
        C.due("34: NULL", b.status(), 1);
        b.copy(0, 0, 0, 0, 1);
        C.due("34: none by copy", b.status(), 0);
        b.row(1, 1, 1);
        b.copy(0, 0, 1, 0, 1);
        C.due("34: STORE", b.status(), 5);
        b.as(0, 2);
        C.due("34: KIND", b.status(), 3);
        b.as(0, 6);
        b.as(1, 0);
        C.due("34: BAD as leaves it", b.status(), 3);
        b.as(0, 1);
        C.due("34: none by as", b.status(), 0);
        b.who(0, 0, 0, 2);
        C.due("34: PLACE by who", b.status(), 2);
        b.who(0, 0, 0, 13);
        C.due("34: BAD who leaves it", b.status(), 2);
        b.who(0, 0, 0, 1);
        C.due("34: none by who", b.status(), 0);
        b.rather(2, 0, 0);
        C.due("34: NULL by rather", b.status(), 1);
        Check.fill(b, 2, 0, 21, 0, 0, 0, 0, 0, 0, 0);
        b.drop(3);
        b.rather(2, 0, 0);
        C.due("34: late BAD leaves it", b.status(), 1);
        b.drop(2);
        C.due("34: none by drop", b.status(), 0);
    }
}
