/** The boundary cases of part 1 and of promises 1 to 8: ROWS, THE TAPE, texts, FAULTS; both sides of each. */
public final class BoundsToldTest {
    private static final Check C = new Check("BoundsToldTest");
    private static final int MAX = Check.MAX, MIN = Check.MIN;
    private static final String LAW = "g60,12;";

    public static void main(String[] args) {
        rowsZeroToSeven();
        lanesZeroToTwo();
        itemsZeroToForty();
        itemsAreZeroAtFirst();
        lowestBits();
        placesOfARow();
        placesOfACopy();
        copiedAsTheyWereAhead();
        bytesZeroTo255();
        tapeOfHundred();
        secondsAndSounds();
        opensOneToTwenty();
        oneDoorToSix();
        noCallerToSix();
        doorsTold();
        patienceZeroToTwenty();
        twoFiguresAtMost();
        everyByteAtEveryPlace();
        everyEnd();
        theLeastFaultOfAToken();
        theFirstTokenThatHasOne();
        inPlaceOfTheOneBefore();
        C.end();
    }

    private static void rowsZeroToSeven() {
        DoorBell b = new DoorBell();
        for (int row = 0; row <= 7; row++) {
            C.due("1: row " + row + " is missing at first", b.drop(row), Check.NULL);
            C.due("2: row " + row, b.row(row, 0, 1), 1);
            C.due("33: rows", b.count(0), row + 1);
        }
        for (int row : new int[] {-1, 8, MIN, MAX}) {
            C.due("2: row " + row, b.row(row, 0, 1), Check.BAD);
            C.due("3: row " + row, b.set(row, 0, 1), Check.BAD);
            C.due("4: from row " + row, b.copy(row, 0, 0, 0, 1), Check.BAD);
            C.due("4: to row " + row, b.copy(0, 0, row, 0, 1), Check.BAD);
            C.due("5: row " + row, b.drop(row), Check.BAD);
        }
        C.due("33: rows", b.count(0), 8);
        C.due("3: the first", b.set(0, 0, 5), 5);
        C.due("4: from the first to the last", b.copy(0, 0, 7, 0, 1), 1);
        C.due("5: the last", b.drop(7), 1);
        C.due("33: rows", b.count(0), 7);
    }

    private static void lanesZeroToTwo() {
        DoorBell b = new DoorBell();
        for (int lane : new int[] {-1, 3, MIN, MAX}) {
            C.due("2: lane " + lane, b.row(0, lane, 1), Check.BAD);
        }
        C.due("2: no row by a wrong lane", b.count(0), 0);
        for (int lane = 0; lane <= 2; lane++) {
            C.due("2: lane " + lane, b.row(lane, lane, 1), 1);
        }
        C.due("4: bytes and ints", b.copy(0, 0, 2, 0, 1), Check.STORE);
        C.due("4: bytes and shorts", b.copy(0, 0, 1, 0, 1), Check.STORE);
        C.due("4: shorts and ints", b.copy(1, 0, 2, 0, 1), Check.STORE);
        C.due("4: ints and ints", b.copy(2, 0, 2, 0, 1), 1);
    }

    private static void itemsZeroToForty() {
        DoorBell b = new DoorBell();
        C.due("2: SIZE below none, no row", b.row(0, 0, -1), Check.SIZE);
        C.due("2: SIZE far below", b.row(0, 0, MIN), Check.SIZE);
        C.due("2: 41", b.row(0, 0, 41), Check.BAD);
        C.due("2: far above", b.row(0, 0, MAX), Check.BAD);
        C.due("33: no row of these", b.count(0), 0);
        C.due("2: none", b.row(0, 0, 0), 0);
        C.due("33: a row of none is there", b.count(0), 1);
        C.due("3: and has no place", b.set(0, 0, 1), Check.PLACE);
        C.due("4: none of none", b.copy(0, 0, 0, 0, 0), 0);
        C.due("2: 40", b.row(0, 0, 40), 40);
        C.due("3: the last place", b.set(0, 39, 1), 1);
        C.due("3: beyond", b.set(0, 40, 1), Check.PLACE);
        C.due("2: SIZE leaves what is there", b.row(0, 1, -1), Check.SIZE);
        C.due("2: BAD leaves what is there", b.row(0, 1, 41), Check.BAD);
        C.due("3: its lane, too", b.set(0, 39, 200), -56);
        C.due("5: how many it had", b.drop(0), 40);
    }

    private static void itemsAreZeroAtFirst() {
        DoorBell b = Check.told("g0,0;d9;u0,0;");
        for (int lane = 0; lane <= 2; lane++) {
            b.row(lane, lane, 40);
            for (int i = 0; i < 40; i++) {
                C.due("2: item " + i + " of lane " + lane, b.who(0, lane, i, 1), 0b111110);
                b.set(lane, i, 1);
                C.due("3: item " + i + " is 1", b.who(0, lane, i, 1), 0);
            }
            b.row(lane, 2 - lane, 40);
        }
        for (int i = 0; i < 40; i++) {
            C.due("2: in place of what was there, item " + i, b.who(0, 0, i, 1), 0b111110);
        }
        b.set(0, 39, 1);
        b.row(0, 2, 39);
        b.row(0, 2, 40);
        C.due("2: beyond a shorter one", b.who(0, 0, 39, 1), 0b111110);
        b.set(0, 3, 1);
        b.drop(0);
        b.row(0, 2, 40);
        C.due("5: nothing is left of what was dropped", b.who(0, 0, 3, 1), 0b111110);
    }

    private static void lowestBits() {
        DoorBell b = new DoorBell();
        for (int lane = 0; lane <= 2; lane++) {
            b.row(lane, lane, 1);
        }
        int[] values = {0, 1, -1, 127, 128, 255, 256, -128, -129, 32767, 32768, 65535, 65536, -32768, -32769, MAX, MIN};
        int[] bytes = {0, 1, -1, 127, -128, -1, 0, -128, 127, -1, 0, -1, 0, 0, -1, -1, 0};
        int[] shorts = {0, 1, -1, 127, 128, 255, 256, -128, -129, 32767, -32768, -1, 0, -32768, 32767, -1, 0};
        for (int k = 0; k < values.length; k++) {
            C.due("3: byte " + values[k], b.set(0, 0, values[k]), bytes[k]);
            C.due("3: short " + values[k], b.set(1, 0, values[k]), shorts[k]);
            C.due("3: int " + values[k], b.set(2, 0, values[k]), values[k]);
        }
    }

    private static void placesOfARow() {
        DoorBell b = new DoorBell();
        b.row(0, 2, 1);
        C.due("3: the only place", b.set(0, 0, 7), 7);
        for (int i : new int[] {-1, 1, MIN, MAX}) {
            C.due("3: place " + i, b.set(0, i, 7), Check.PLACE);
        }
        C.due("3: NULL ahead of PLACE", b.set(1, -1, 7), Check.NULL);
        C.due("3: BAD ahead of NULL", b.set(8, -1, 7), Check.BAD);
    }

    private static void placesOfACopy() {
        DoorBell b = new DoorBell();
        b.row(0, 0, 5);
        b.row(1, 0, 3);
        C.due("4: all that fit", b.copy(0, 2, 1, 0, 3), 3);
        C.due("4: one more than a has", b.copy(0, 3, 1, 0, 3), Check.PLACE);
        C.due("4: one more than b has", b.copy(0, 1, 1, 0, 4), Check.PLACE);
        C.due("4: j one too far", b.copy(0, 0, 1, 1, 3), Check.PLACE);
        C.due("4: j that fits", b.copy(0, 0, 1, 1, 2), 2);
        C.due("4: none, at both ends", b.copy(0, 5, 1, 3, 0), 0);
        C.due("4: none, i beyond the end", b.copy(0, 6, 1, 3, 0), Check.PLACE);
        C.due("4: none, j beyond the end", b.copy(0, 5, 1, 4, 0), Check.PLACE);
        C.due("4: i below", b.copy(0, -1, 1, 0, 0), Check.PLACE);
        C.due("4: j below", b.copy(0, 0, 1, -1, 0), Check.PLACE);
        C.due("4: n below", b.copy(0, 0, 1, 0, -1), Check.PLACE);
        int[] wild = {MIN, MIN + 1, MAX - 1, MAX};
        for (int w : wild) {
            C.due("4: i " + w, b.copy(0, w, 1, 0, 1), Check.PLACE);
            C.due("4: j " + w, b.copy(0, 0, 1, w, 1), Check.PLACE);
            C.due("4: n " + w, b.copy(0, 0, 1, 0, w), Check.PLACE);
            C.due("4: i and n " + w, b.copy(0, w, 1, 0, w), Check.PLACE);
            C.due("4: a sum that wraps to 1", b.copy(0, MAX, 1, 0, MIN + 2), Check.PLACE);
        }
        b.row(2, 1, 5);
        C.due("4: STORE ahead of PLACE", b.copy(0, MIN, 2, MAX, -1), Check.STORE);
        C.due("4: NULL ahead of STORE", b.copy(2, 0, 3, 0, 1), Check.NULL);
        C.due("4: NULL of the first", b.copy(3, 0, 2, 0, 1), Check.NULL);
        C.due("4: NULL of both, itself", b.copy(3, 0, 3, 0, 0), Check.NULL);
        C.due("4: BAD ahead of NULL", b.copy(3, 0, 8, 0, 1), Check.BAD);
    }

    private static void copiedAsTheyWereAhead() {
        for (int from = 0; from <= 3; from++) {
            for (int to = 0; to <= 3; to++) {
                DoorBell b = Check.told("g0,0;d9;u0,0;");
                Check.fill(b, 0, 1, 1, 0, 0, 1, 0, 1);
                int[] want = {1, 0, 0, 1, 0, 1};
                System.arraycopy(want.clone(), from, want, to, 3);
                C.due("4: three from " + from + " to " + to, b.copy(0, from, 0, to, 3), 3);
                for (int i = 0; i < 6; i++) {
                    C.due("4: item " + i + ", " + from + " to " + to, b.who(0, 0, i, 1), want[i] == 1 ? 0 : 0b111110);
                }
            }
        }
    }

    private static void bytesZeroTo255() {
        DoorBell b = new DoorBell();
        for (int letter : new int[] {-1, 256, MIN, MAX, 'g' + 256}) {
            C.due("6: byte " + letter, b.feed(letter), Check.BAD);
        }
        C.due("33: an empty tape", b.count(8), 0);
        C.due("6: byte 0", b.feed(0), 1);
        C.due("6: byte 255", b.feed(255), 2);
        C.due("33: two bytes", b.count(8), 2);
    }

    private static void tapeOfHundred() {
        String most = LAW + "d01;d01;d01;d01;d01;d01;u05,01;l05,01;b05,01;p05,01;k05,01;u05,01;";
        DoorBell b = new DoorBell();
        Check.feed(b, most);
        for (int n = most.length() + 1; n <= 100; n++) {
            C.due("6: byte " + n, b.feed('d'), n);
        }
        C.due("6: 100 are on it", b.count(8), 100);
        C.due("6: no more", b.feed('d'), Check.FULL);
        C.due("6: BAD ahead of FULL", b.feed(-1), Check.BAD);
        C.due("6: BAD ahead of FULL", b.feed(256), Check.BAD);
        C.due("6: 100 yet", b.count(8), 100);
        C.due("7: what stands behind the street", b.street(), -1000100 - most.length());
        C.due("7: empty then", b.count(8), 0);
        C.due("6: from the first on", b.feed('g'), 1);
        for (int n = 2; n <= 100; n++) {
            b.feed(n == 100 ? '5' : 'x');
        }
        C.due("7: full, and at fault", b.street(), -1000101);
        C.due("7: nothing is left on the tape", b.street(), -1000100);
        Check.feed(b, "g10,10;");
        for (int n = 8; n <= 99; n += 4) {
            Check.feed(b, "d10;");
        }
        C.due("6: one less than 100", b.count(8), 99);
        C.due("6: the hundredth", b.feed('9'), 100);
        C.due("7: the seventh door", b.street(), -1000100 - 31);
        C.due("7: the whole of the most", Check.read(b, most), 6);
    }

    /** A text that is good as far as one NUMBER goes, and so ends whole or has a FAULT 2 there. */
    private static void number(String ahead, int n, String behind, int least, int most) {
        DoorBell b = new DoorBell();
        boolean isGood = n >= least && n <= most;
        int got = Check.read(b, ahead + n + behind);
        String text = ahead + n + behind;
        C.due("7: " + text, got >= 0 ? 1 : got, isGood ? 1 : -1000100 - ahead.length());
        C.due("8: " + text, b.fault(), isGood ? 0 : 2);
        C.due("7: a street by " + text, b.count(1) > 0 ? 1 : 0, isGood ? 1 : 0);
    }

    private static void secondsAndSounds() {
        for (int n = 0; n <= 99; n++) {
            number("g", n, ",0;d1;", 0, 60);
            number("g0,", n, ";d1;", 0, 12);
        }
        DoorBell b = Check.told("g60,12;d1;");
        C.due("33: seconds", b.count(3), 60);
        C.due("33: sounds", b.count(4), 12);
        Check.read(b, "g0,0;d1;");
        C.due("33: no seconds", b.count(3), 0);
        C.due("33: no sounds", b.count(4), 0);
    }

    private static void opensOneToTwenty() {
        for (int n = 0; n <= 99; n++) {
            number("g0,0;d", n, ";", 1, 20);
            number("g0,0;d1;d", n, ";", 1, 20);
        }
        DoorBell b = Check.told("g0,0;d1;d20;");
        C.due("13: 1", b.door(0, 0), 1);
        C.due("13: 20", b.door(1, 0), 20);
    }

    private static void oneDoorToSix() {
        DoorBell b = new DoorBell();
        C.due("7: without a door", Check.read(b, LAW), -1000107);
        C.due("8: the end", b.fault(), 1);
        C.due("7: a caller without a door", Check.read(b, LAW + "u0,0;"), -1000107);
        C.due("8: it can not stand there", b.fault(), 1);
        StringBuilder text = new StringBuilder(LAW);
        for (int doors = 1; doors <= 6; doors++) {
            text.append("d").append(doors).append(";");
            C.due("7: doors, no callers", Check.read(b, text.toString()), 0);
            C.due("33: doors", b.count(1), doors);
            C.due("13: the last", b.door(doors - 1, 0), doors);
            C.due("13: behind the last", b.door(doors, 0), Check.BAD);
        }
        int seventh = text.length();
        for (String more : new String[] {"d7;", "d7", "d0;", "d", "d;", "d777;", "dd"}) {
            C.due("7: a seventh " + more, Check.read(b, text + more), -1000100 - seventh);
            C.due("8: a seventh " + more, b.fault(), 3);
            C.due("33: six yet", b.count(1), 6);
        }
    }

    private static void noCallerToSix() {
        DoorBell b = new DoorBell();
        StringBuilder text = new StringBuilder(LAW).append("d1;");
        C.due("7: none", Check.read(b, text.toString()), 0);
        C.due("14: none", b.caller(0, 0), Check.BAD);
        for (int callers = 1; callers <= 6; callers++) {
            text.append("ulbpku".charAt(callers - 1)).append("0,").append(callers).append(";");
            C.due("7: callers", Check.read(b, text.toString()), callers);
            C.due("33: callers", b.count(2), callers);
            C.due("14: the last", b.caller(callers - 1, 1), callers);
            C.due("14: behind the last", b.caller(callers, 1), Check.BAD);
        }
        int seventh = text.length();
        for (String more : new String[] {"u0,7;", "l", "b9", "p0,99;", "k,", "uu", "u777"}) {
            b = Check.told(text.toString());
            C.due("7: a seventh " + more, Check.read(b, text + more), -1000100 - seventh);
            C.due("8: a seventh " + more, b.fault(), 3);
            C.due("33: six yet", b.count(2), 6);
        }
        for (String more : new String[] {"d1;", "g", "a", ",", ";", "0", "777", " "}) {
            dueFault(text + more, seventh, 1);
        }
    }

    private static void doorsTold() {
        StringBuilder doors = new StringBuilder(LAW);
        for (int n = 1; n <= 6; n++) {
            doors.append("d1;");
            for (int told = 0; told <= 99; told++) {
                number(doors + "k", told, ",0;", 0, n - 1);
            }
        }
    }

    private static void patienceZeroToTwenty() {
        for (int n = 0; n <= 99; n++) {
            for (char sort : "ulbpk".toCharArray()) {
                number("g0,0;d1;" + sort + "0,", n, ";", 0, 20);
            }
        }
        DoorBell b = Check.told("g0,0;d1;u0,0;u0,20;");
        C.due("14: 0", b.caller(0, 1), 0);
        C.due("14: 20", b.caller(1, 1), 20);
    }

    private static void twoFiguresAtMost() {
        String whole = "g07,05;d19;d18;u01,06;";
        int[] places = {1, 4, 8, 12, 16, 19};
        DoorBell b = new DoorBell();
        C.due("7: two figures", Check.read(b, whole), 1);
        C.due("7: one figure", Check.read(b, "g7,5;d9;d8;u1,6;"), 1);
        for (int place : places) {
            for (String more : new String[] {"0", "00", "000", "0000000000", "9999999999"}) {
                dueFault(whole.substring(0, place) + more + whole.substring(place), place, 1);
            }
            // No figure at all, and two that stand apart.
            dueFault(whole.substring(0, place) + whole.substring(place + 2), place, 1);
            dueFault(whole.substring(0, place + 1) + " " + whole.substring(place + 1), place + 1, 1);
        }
    }

    /** What may stand at each place of a text; every other byte there is a FAULT 1, or changes the NUMBER. */
    private static void everyByteAtEveryPlace() {
        String whole = "g5,5;d5;d6;l1,5;";
        String sorts = "ulbpk";
        for (int place = 0; place < whole.length(); place++) {
            char due = whole.charAt(place);
            boolean isNumber = due >= '0' && due <= '9';
            for (int letter = 0; letter <= 255; letter++) {
                boolean isFigure = letter >= '0' && letter <= '9';
                boolean isSort = sorts.indexOf(letter) >= 0;
                if (isNumber && isFigure || !isNumber && due == letter || due == 'l' && isSort
                    || due == 'l' && letter == 'd' || place == 8 && isSort
                    || isFigure && place > 0 && whole.charAt(place - 1) >= '0' && whole.charAt(place - 1) <= '9') {
                    continue;
                }
                DoorBell b = new DoorBell();
                String text = whole.substring(0, place) + (char) letter + whole.substring(place + 1);
                C.due("7: byte " + letter + " at " + place, Check.read(b, text), -1000100 - place);
                C.due("8: byte " + letter + " at " + place, b.fault(), 1);
            }
        }
    }

    private static void everyEnd() {
        String whole = "g12,10;d12;d20;u01,20;k00,05;";
        String goodEnds = "11 15 22 29";
        for (int n = 0; n <= whole.length(); n++) {
            DoorBell b = new DoorBell();
            boolean isGood = (" " + goodEnds + " ").contains(" " + n + " ");
            int callers = n >= 29 ? 2 : n >= 22 ? 1 : 0;
            C.due("7: the first " + n, Check.read(b, whole.substring(0, n)), isGood ? callers : -1000100 - n);
            C.due("8: the first " + n, b.fault(), isGood ? 0 : 1);
        }
    }

    private static void theLeastFaultOfAToken() {
        String six = LAW + "d1;d1;d1;d1;d1;d1;";
        dueFault(LAW + "d21", 8, 2);
        dueFault(LAW + "d210", 8, 1);
        dueFault("g61", 1, 2);
        dueFault("g611", 1, 1);
        dueFault("61", 0, 1);
        dueFault(LAW + "99", 7, 1);
        dueFault(LAW + "d1;99", 10, 1);
        dueFault(LAW + "d1;u0,5;d1;", 15, 1);
        dueFault(six + "d", six.length(), 3);
        dueFault(six + "u0,5;d1;", six.length() + 5, 1);
        dueFault(six + "u0,5;u0,5;u0,5;u0,5;u0,5;u0,5;d", six.length() + 30, 1);
        dueFault(six + "u0,5;u0,5;u0,5;u0,5;u0,5;u0,5;u", six.length() + 30, 3);
        dueFault(six + "u0,5;u0,5;u0,5;u0,5;u0,5;u0,5;" + "uu", six.length() + 30, 3);
    }

    private static void dueFault(String text, int place, int number) {
        DoorBell b = new DoorBell();
        C.due("7: " + text, Check.read(b, text), -1000100 - place);
        C.due("8: " + text, b.fault(), number);
    }

    private static void theFirstTokenThatHasOne() {
        dueFault("g61,13;d0;", 1, 2);
        dueFault("g60,13;d0;", 4, 2);
        dueFault("g60,12;d0;u9,99;", 8, 2);
        dueFault("g60,12;d1;u9,99;", 11, 2);
        dueFault("g60,12;d1;u0,99;x", 13, 2);
        dueFault("g60,12;d1;u0,9;x", 15, 1);
        dueFault("g60,x;d0;", 4, 1);
        dueFault("g61 ", 1, 2);
    }

    private static void inPlaceOfTheOneBefore() {
        DoorBell b = Check.told("g60,12;d1;d2;d3;d4;d5;d6;u0,9;l1,9;b2,9;p3,9;k4,9;u5,0;");
        for (int door = 0; door < 6; door++) {
            b.stretch(door, 5);
            b.sound(door, 0, 1);
            b.sound(door, 1, 1);
        }
        b.days(24);
        DoorBell anew = Check.told("g9,9;d7;d1;u1,2;");
        C.due("7: another", Check.read(b, "g9,9;d7;d1;u1,2;"), 1);
        C.due("7: as on a new object", Check.seen(b).equals(Check.seen(anew)) ? 1 : 0, 1);
        C.due("9: none to undo", b.undo(), Check.STATE);
        C.due("13: no third door", b.door(2, 0), Check.BAD);
        C.due("14: no second caller", b.caller(1, 0), Check.BAD);
    }
}
