/** A street of doors, those within, and the callers who wait between the bell and the door. */
public final class DoorBell {
    public static final int NONE = -1000000, BAD = -1000001, STATE = -1000002, FULL = -1000003;

    private static final int FINDINGS = -1000010;
    private static final int FAULTS = -1000100;
    private static final int FOUND_NULL = 1;
    private static final int FOUND_PLACE = 2;
    private static final int FOUND_KIND = 3;
    private static final int FOUND_SIZE = 4;
    private static final int FOUND_STORE = 5;

    private static final int ROW_COUNT = 8;
    private static final int MOST_ITEMS = 40;
    private static final int BYTES = 0;
    private static final int SHORTS = 1;
    private static final int INTS = 2;
    private static final int MISSING = -1;

    private static final int MOST_BYTES = 100;
    private static final int MOST_DOORS = 6;
    private static final int MOST_CALLERS = 6;
    private static final int MOST_STRETCH = 5;
    private static final int MOST_ACTS = 24;
    private static final int LAST_DAY = 999;
    private static final int MOST_AHEAD = 60;
    private static final int MOST_TOLD_DAYS = 12;
    private static final int MOST_SEED = 999999;
    private static final int IMAGE_COUNT = 2;
    private static final int GAME_ITEMS = 8;
    private static final int GAME_BOUND = 20;

    private static final int ANY_CALLER = 0;
    private static final int GUEST = 1;
    private static final int LOVER = 2;
    private static final int BAILIFF = 3;
    private static final int POSTMAN = 4;
    private static final int CHILD = 5;

    private static final int ACT_COUGH = 0;
    private static final int ACT_DOG = 1;
    private static final int ACT_STRETCH = 2;
    private static final int ACT_DAY = 3;

    private final Row[] rows = new Row[ROW_COUNT];
    private final Street[] images = new Street[IMAGE_COUNT];
    private final Street here = new Street();
    private final Street trial = new Street();
    private final Reader reader = new Reader();
    private final Acts acts = new Acts();
    private final Laying laying = new Laying();
    private final Asker asker = new Asker();
    private int latestFault = 0;
    private int latestFinding = 0;

    public DoorBell() {
        for (int k = 0; k < ROW_COUNT; k++) {
            rows[k] = new Row();
        }
        for (int k = 0; k < IMAGE_COUNT; k++) {
            images[k] = new Street();
        }
    }

    // ---- rows

    public int row(int row, int lane, int n) {
        if (!isRow(row) || lane < BYTES || lane > INTS || n > MOST_ITEMS) {
            return BAD;
        }
        if (n < 0) {
            return found(FOUND_SIZE);
        }
        rows[row].begin(lane, n);
        return foundNone(n);
    }

    public int set(int row, int i, int v) {
        if (!isRow(row)) {
            return BAD;
        }
        Row target = rows[row];
        int finding = findingAt(target, i, 1);
        if (finding != 0) {
            return found(finding);
        }
        target.items[i] = target.narrowed(v);
        return foundNone(target.items[i]);
    }

    public int copy(int a, int i, int b, int j, int n) {
        if (!isRow(a) || !isRow(b)) {
            return BAD;
        }
        Row from = rows[a];
        Row to = rows[b];
        if (from.isMissing() || to.isMissing()) {
            return found(FOUND_NULL);
        }
        if (from.lane != to.lane) {
            return found(FOUND_STORE);
        }
        if (!from.spans(i, n) || !to.spans(j, n)) {
            return found(FOUND_PLACE);
        }
        System.arraycopy(from.items, i, to.items, j, n);
        return foundNone(n);
    }

    public int drop(int row) {
        if (!isRow(row)) {
            return BAD;
        }
        Row target = rows[row];
        if (target.isMissing()) {
            return found(FOUND_NULL);
        }
        int had = target.size;
        target.begin(MISSING, 0);
        return foundNone(had);
    }

    // ---- what is told

    public int feed(int letter) {
        if (letter < 0 || letter > 255) {
            return BAD;
        }
        return reader.take(letter) ? reader.length : FULL;
    }

    public int street() {
        boolean isRead = reader.readInto(trial);
        reader.length = 0;
        if (!isRead) {
            latestFault = reader.faultNumber;
            return FAULTS - reader.faultPlace;
        }
        here.takeOver(trial);
        acts.forgetAll();
        return here.callers;
    }

    public int fault() {
        return latestFault;
    }

    public int undo() {
        if (acts.kept == 0) {
            return STATE;
        }
        acts.takeBackLatest(here);
        return acts.kept;
    }

    // ---- what is done

    public int stretch(int door, int n) {
        if (!here.hasDoor(door) || n < 0 || n > MOST_STRETCH) {
            return BAD;
        }
        int before = here.stretches[door];
        if (here.usedSeconds() - before + n > here.seconds) {
            return FULL;
        }
        here.stretches[door] = n;
        acts.keep(ACT_STRETCH, door, before);
        return before;
    }

    public int sound(int door, int what, int on) {
        if (!here.hasDoor(door) || !isBit(what) || !isBit(on)) {
            return BAD;
        }
        int[] laid = what == ACT_COUGH ? here.coughs : here.dogs;
        if (laid[door] == on) {
            return STATE;
        }
        if (on == 1 && here.usedSounds() >= here.sounds) {
            return FULL;
        }
        laid[door] = on;
        acts.keep(what, door, 1 - on);
        return here.usedSounds();
    }

    public int days(int n) {
        if (!here.isTold()) {
            return STATE;
        }
        if (n < 1 || n > MOST_ACTS) {
            return BAD;
        }
        if (here.day + n > LAST_DAY) {
            return FULL;
        }
        int met = 0;
        for (int k = 0; k < n; k++) {
            met = here.passDay();
            acts.keep(ACT_DAY, 0, met);
        }
        return met;
    }

    public int door(int door, int what) {
        if (!here.hasDoor(door)) {
            return BAD;
        }
        switch (what) {
            case 0: return here.openings[door];
            case 1: return here.stretches[door];
            case 2: return here.coughs[door];
            case 3: return here.dogs[door];
            case 4: return here.heardAt(door);
            case 5: return here.opensBehind(door);
            case 6: return here.callersAt(door);
            default: return BAD;
        }
    }

    public int caller(int caller, int what) {
        if (!here.hasCaller(caller)) {
            return BAD;
        }
        switch (what) {
            case 0: return here.places[caller];
            case 1: return here.patiences[caller];
            case 2: return here.staysHowLong(caller);
            case 3: return here.isMeeting(caller) ? 1 : 0;
            case 4: return here.mets[caller];
            default: return BAD;
        }
    }

    public int used(int what) {
        if (!here.isTold()) {
            return STATE;
        }
        if (!isBit(what)) {
            return BAD;
        }
        return what == 0 ? here.usedSeconds() : here.usedSounds();
    }

    // ---- foretold

    public int meets() {
        return here.isTold() ? here.meetingNow() : STATE;
    }

    public int nothing() {
        return here.isTold() ? here.firstOnNothing() : STATE;
    }

    public int ahead(int caller, int n, int what) {
        if (!here.hasCaller(caller) || n < 0 || n > MOST_AHEAD || !isBit(what)) {
            return BAD;
        }
        int first = here.firstMeeting(caller, here.kinds[caller]);
        // What is laid stays, so whoever has met once meets on every day behind it.
        int walked = first == NONE ? n : Math.min(n, first);
        return what == 0 ? here.placeAfter(caller, walked) : here.mets[caller] + n - walked;
    }

    public int soon(int caller) {
        return here.hasCaller(caller) ? here.firstMeeting(caller, here.kinds[caller]) : BAD;
    }

    public int least(int meet, int not, int door) {
        if (!here.isTold()) {
            return STATE;
        }
        if (!areApartSets(meet, not) || (door != -1 && !here.hasDoor(door))) {
            return BAD;
        }
        laying.weigh(here, meet, not);
        if (!laying.choose()) {
            return NONE;
        }
        return door == -1 ? laying.total : laying.codeAt(door, laying.chosen);
    }

    public int whichDoor(int meet, int not) {
        if (!here.isTold()) {
            return STATE;
        }
        if (!areApartSets(meet, not)) {
            return BAD;
        }
        laying.weigh(here, meet, not);
        return laying.firstThatCanNot();
    }

    public int who(int caller, int row, int i, int n) {
        if (!here.hasCaller(caller) || !isRow(row) || n < 1 || n > MOST_TOLD_DAYS) {
            return BAD;
        }
        Row told = rows[row];
        int finding = findingAt(told, i, n);
        if (finding != 0) {
            return found(finding);
        }
        int kinds = 0;
        for (int kind = GUEST; kind <= CHILD; kind++) {
            if (told.tellsMeetingsFrom(here.firstMeeting(caller, kind), i, n)) {
                kinds |= 1 << kind;
            }
        }
        return foundNone(kinds);
    }

    public long sleeps(int caller, int p, int what) {
        if (!here.hasCaller(caller) || p < 0 || p > 10 || !isBit(what)) {
            return BAD;
        }
        int above = meetingCases(caller, p);
        int shared = Math.max(1, commonDivisor(1000, above));
        return (what == 0 ? above : 1000) / shared;
    }

    public int reaches(int door, int what) {
        if (!here.hasDoor(door) || !isBit(what)) {
            return BAD;
        }
        if (what == 0) {
            int near = 7 << door >> 1;
            return near & here.allDoors();
        }
        trial.takeOver(here);
        trial.coughs[door] = 0;
        trial.dogs[door] = 0;
        return here.meetingNow() ^ trial.meetingNow();
    }

    public int rather(int row, int i, int what) {
        if (!isRow(row) || !isBit(what)) {
            return BAD;
        }
        Row told = rows[row];
        int finding = findingAt(told, i, GAME_ITEMS);
        if (finding != 0) {
            return found(finding);
        }
        for (int k = i; k < i + GAME_ITEMS; k++) {
            if (told.items[k] < -GAME_BOUND || told.items[k] > GAME_BOUND) {
                return BAD;
            }
        }
        int ways = steadyWays(told.items, i);
        return foundNone(what == 0 ? Integer.bitCount(ways) : ways);
    }

    public int drawn(int n, int seed, int what) {
        if (!here.isTold()) {
            return STATE;
        }
        if (n < 0 || n > MOST_AHEAD || seed < 1 || seed > MOST_SEED || !isBit(what)) {
            return BAD;
        }
        trial.takeOver(here);
        int met = 0;
        long x = seed;
        for (int k = 0; k < n; k++) {
            x = x * 16807L % 2147483647L;
            trial.layByDraw(x);
            met += Integer.bitCount(trial.passDay());
        }
        return what == 0 ? met : trial.placesAdded();
    }

    public int image(int k) {
        if (!isBit(k)) {
            return BAD;
        }
        if (!here.isTold()) {
            return STATE;
        }
        images[k].takeOver(here);
        return 1;
    }

    public int restore(int k) {
        if (!isBit(k)) {
            return BAD;
        }
        if (!images[k].isTold()) {
            return STATE;
        }
        here.takeOver(images[k]);
        acts.forgetAll();
        return 1;
    }

    // ---- asked

    public int kind(int one) {
        return here.hasCaller(one) ? here.kinds[one] : BAD;
    }

    public int as(int one, int kind) {
        if (!here.hasCaller(one) || kind < ANY_CALLER || kind > CHILD) {
            return BAD;
        }
        return isOneOf(here.kinds[one], kind) ? foundNone(one) : found(FOUND_KIND);
    }

    public int ask(int one, int what) {
        if (!here.hasCaller(one) || !isBit(what)) {
            return BAD;
        }
        return asker.answer(here, one, what);
    }

    public int trace(int i) {
        return i >= 0 && i < asker.left ? asker.numbers[i] : NONE;
    }

    public int count(int what) {
        switch (what) {
            case 0: return rowsThere();
            case 1: return here.doors;
            case 2: return here.callers;
            case 3: return here.seconds;
            case 4: return here.sounds;
            case 5: return here.day;
            case 6: return here.metsAdded();
            case 7: return acts.kept;
            case 8: return reader.length;
            default: return BAD;
        }
    }

    public int status() {
        return latestFinding;
    }

    // ---- what the calls share

    private int found(int finding) {
        latestFinding = finding;
        return FINDINGS - finding;
    }

    private int foundNone(int answer) {
        latestFinding = 0;
        return answer;
    }

    private int rowsThere() {
        int there = 0;
        for (int k = 0; k < ROW_COUNT; k++) {
            if (!rows[k].isMissing()) {
                there++;
            }
        }
        return there;
    }

    private boolean areApartSets(int meet, int not) {
        int all = here.allCallers();
        return (meet & ~all) == 0 && (not & ~all) == 0 && (meet & not) == 0;
    }

    /** Of 1000 cases those in which a caller MEETS: only its DOOR and the two next to it matter. */
    private int meetingCases(int caller, int p) {
        int left = here.places[caller] - 1;
        int cases = 0;
        for (int asleep = 0; asleep < 8; asleep++) {
            trial.takeOver(here);
            int weight = 1;
            for (int k = 0; k < 3; k++) {
                if ((asleep >> k & 1) == 1) {
                    weight *= p;
                    trial.clearDoor(left + k);
                } else {
                    weight *= 10 - p;
                }
            }
            if (trial.isMeeting(caller)) {
                cases += weight;
            }
        }
        return cases;
    }

    private static boolean isRow(int row) {
        return row >= 0 && row < ROW_COUNT;
    }

    private static boolean isBit(int number) {
        return number == 0 || number == 1;
    }

    private static int findingAt(Row row, int from, int n) {
        if (row.isMissing()) {
            return FOUND_NULL;
        }
        return row.spans(from, n) ? 0 : FOUND_PLACE;
    }

    private static int commonDivisor(int a, int b) {
        int divisor = a;
        int rest = b;
        // Euclid's steps for numbers up to 1000 are fewer than 20.
        for (int step = 0; step < 64 && rest != 0; step++) {
            int next = divisor % rest;
            divisor = rest;
            rest = next;
        }
        return divisor;
    }

    /** The ways (bit 0 both ring, 1 the first alone, 2 the second alone, 3 nobody) that neither leaves alone. */
    private static int steadyWays(int[] items, int from) {
        int ways = 0;
        for (int way = 0; way < 4; way++) {
            // Bit 1 of a way tells that the first waits, bit 0 that the second does.
            boolean firstStays = items[from + way] >= items[from + (way ^ 2)];
            boolean secondStays = items[from + 4 + way] >= items[from + 4 + (way ^ 1)];
            if (firstStays && secondStays) {
                ways |= 1 << way;
            }
        }
        return ways;
    }

    private static boolean isOneOf(int kind, int wanted) {
        if (wanted == ANY_CALLER || wanted == kind) {
            return true;
        }
        if (wanted == GUEST) {
            return kind == LOVER || kind == BAILIFF;
        }
        return wanted == POSTMAN && kind == CHILD;
    }

    /** A ROW; it is made once and used again, so that a run of calls makes few objects. */
    private static final class Row {
        final int[] items = new int[MOST_ITEMS];
        int lane = MISSING;
        int size = 0;

        boolean isMissing() {
            return lane == MISSING;
        }

        void begin(int newLane, int n) {
            lane = newLane;
            size = n;
            for (int k = 0; k < MOST_ITEMS; k++) {
                items[k] = 0;
            }
        }

        boolean spans(int from, int n) {
            return from >= 0 && n >= 0 && n <= size && from <= size - n;
        }

        int narrowed(int v) {
            if (lane == BYTES) {
                return (byte) v;
            }
            return lane == SHORTS ? (short) v : v;
        }

        /** Whether the ITEMS are 0 ahead of the first meeting, and 1 from it on. */
        boolean tellsMeetingsFrom(int first, int from, int n) {
            for (int k = 0; k < n; k++) {
                int due = first != NONE && k >= first ? 1 : 0;
                if (items[from + k] != due) {
                    return false;
                }
            }
            return true;
        }
    }

    /** A STREET with what is laid and where everybody is; without DOORS it is none. */
    private static final class Street {
        final int[] openings = new int[MOST_DOORS];
        final int[] stretches = new int[MOST_DOORS];
        final int[] coughs = new int[MOST_DOORS];
        final int[] dogs = new int[MOST_DOORS];
        final int[] kinds = new int[MOST_CALLERS];
        final int[] places = new int[MOST_CALLERS];
        final int[] patiences = new int[MOST_CALLERS];
        final int[] mets = new int[MOST_CALLERS];
        int doors = 0;
        int callers = 0;
        int seconds = 0;
        int sounds = 0;
        int day = 0;

        boolean isTold() {
            return doors > 0;
        }

        boolean hasDoor(int door) {
            return door >= 0 && door < doors;
        }

        boolean hasCaller(int one) {
            return one >= 0 && one < callers;
        }

        int allDoors() {
            return (1 << doors) - 1;
        }

        int allCallers() {
            return (1 << callers) - 1;
        }

        void begin(int mostSeconds, int mostSounds) {
            doors = 0;
            callers = 0;
            seconds = mostSeconds;
            sounds = mostSounds;
            day = 0;
        }

        void addDoor(int opensAfter) {
            openings[doors] = opensAfter;
            doors++;
            clearDoor(doors - 1);
        }

        void addCaller(int kind, int place, int patience) {
            kinds[callers] = kind;
            places[callers] = place;
            patiences[callers] = patience;
            mets[callers] = 0;
            callers++;
        }

        void clearDoor(int door) {
            if (hasDoor(door)) {
                stretches[door] = 0;
                coughs[door] = 0;
                dogs[door] = 0;
            }
        }

        void takeOver(Street other) {
            System.arraycopy(other.openings, 0, openings, 0, MOST_DOORS);
            System.arraycopy(other.stretches, 0, stretches, 0, MOST_DOORS);
            System.arraycopy(other.coughs, 0, coughs, 0, MOST_DOORS);
            System.arraycopy(other.dogs, 0, dogs, 0, MOST_DOORS);
            System.arraycopy(other.kinds, 0, kinds, 0, MOST_CALLERS);
            System.arraycopy(other.places, 0, places, 0, MOST_CALLERS);
            System.arraycopy(other.patiences, 0, patiences, 0, MOST_CALLERS);
            System.arraycopy(other.mets, 0, mets, 0, MOST_CALLERS);
            doors = other.doors;
            callers = other.callers;
            seconds = other.seconds;
            sounds = other.sounds;
            day = other.day;
        }

        int usedSeconds() {
            return sum(stretches, doors);
        }

        int usedSounds() {
            return sum(coughs, doors) + sum(dogs, doors);
        }

        int metsAdded() {
            return sum(mets, callers);
        }

        int placesAdded() {
            return sum(places, callers);
        }

        int heardAt(int door) {
            for (int near = door - 1; near <= door + 1; near++) {
                if (hasDoor(near) && dogs[near] == 1) {
                    return 1;
                }
            }
            return 0;
        }

        int opensBehind(int door) {
            return opening(openings[door], stretches[door], coughs[door], heardAt(door));
        }

        int staysHowLong(int one) {
            return staysAs(one, kinds[one], places[one]);
        }

        int staysAs(int one, int kind, int door) {
            return staying(kind, patiences[one], stretches[door], coughs[door], heardAt(door));
        }

        boolean isMeeting(int one) {
            return meetsAs(one, kinds[one], places[one]);
        }

        boolean meetsAs(int one, int kind, int door) {
            return opensBehind(door) <= staysAs(one, kind, door);
        }

        int callersAt(int door) {
            int there = 0;
            for (int one = 0; one < callers; one++) {
                if (places[one] == door) {
                    there |= 1 << one;
                }
            }
            return there;
        }

        int meetingNow() {
            int meeting = 0;
            for (int one = 0; one < callers; one++) {
                if (meetsAs(one, kinds[one], places[one])) {
                    meeting |= 1 << one;
                }
            }
            return meeting;
        }

        int firstOnNothing() {
            int meeting = meetingNow();
            for (int door = 0; door < doors; door++) {
                int there = callersAt(door);
                if (there != 0 && (there & meeting) == 0) {
                    return door;
                }
            }
            return NONE;
        }

        /** In how many DAYS a caller of a KIND MEETS first: behind one round of all DOORS it never will. */
        int firstMeeting(int one, int kind) {
            for (int walked = 0; walked < doors; walked++) {
                if (meetsAs(one, kind, placeAfter(one, walked))) {
                    return walked;
                }
            }
            return NONE;
        }

        int placeAfter(int one, int walked) {
            return doors > 0 ? (places[one] + walked) % doors : 0;
        }

        int passDay() {
            int meeting = meetingNow();
            for (int one = 0; one < callers; one++) {
                if ((meeting >> one & 1) == 1) {
                    mets[one]++;
                } else {
                    places[one] = placeAfter(one, 1);
                }
            }
            day++;
            return meeting;
        }

        void takeBackDay(int met) {
            for (int one = 0; one < callers; one++) {
                if ((met >> one & 1) == 1) {
                    mets[one]--;
                } else {
                    places[one] = placeAfter(one, doors - 1);
                }
            }
            day--;
        }

        void layByDraw(long x) {
            if (doors > 0) {
                int door = (int) (x % doors);
                stretches[door] = (int) (x % 6);
                coughs[door] = x % 2 == 0 ? 1 : 0;
                dogs[door] = x % 3 == 0 ? 1 : 0;
            }
        }

        static int sum(int[] numbers, int n) {
            int all = 0;
            for (int k = 0; k < n; k++) {
                all += numbers[k];
            }
            return all;
        }

        static int opening(int behind, int stretched, int coughed, int heard) {
            return Math.max(0, behind + stretched + 2 * heard - coughed);
        }

        static int staying(int kind, int patience, int stretched, int coughed, int heard) {
            int guest = patience + 2 * coughed;
            int postman = Math.min(patience, 3);
            switch (kind) {
                case LOVER: return guest + stretched;
                case BAILIFF: return 2 * guest;
                case POSTMAN: return postman;
                case CHILD: return heard == 1 ? Math.min(postman, 1) : postman;
                default: return guest;
            }
        }
    }

    /** THE TAPE, and how a text on it is read. */
    private static final class Reader {
        private static final int CAN_NOT_STAND = 1;
        private static final int NOT_AS_TOLD = 2;
        private static final int NO_ROOM = 3;

        final int[] tape = new int[MOST_BYTES];
        int length = 0;
        int at = 0;
        int faultPlace = 0;
        int faultNumber = 0;

        boolean take(int letter) {
            if (length >= MOST_BYTES) {
                return false;
            }
            tape[length] = letter;
            length++;
            return true;
        }

        boolean readInto(Street street) {
            at = 0;
            if (!readLaw(street) || !readDoor(street)) {
                return false;
            }
            for (int turn = 0; turn < MOST_BYTES && at < length; turn++) {
                boolean isDoor = street.callers == 0 && nextIs('d');
                boolean isRead = isDoor ? readDoor(street) : readCaller(street);
                if (!isRead) {
                    return false;
                }
            }
            return true;
        }

        private boolean readLaw(Street street) {
            if (!readSign('g')) {
                return false;
            }
            int seconds = readNumber(0, 60);
            if (seconds < 0 || !readSign(',')) {
                return false;
            }
            int sounds = readNumber(0, 12);
            if (sounds < 0 || !readSign(';')) {
                return false;
            }
            street.begin(seconds, sounds);
            return true;
        }

        private boolean readDoor(Street street) {
            if (nextIs('d') && street.doors >= MOST_DOORS) {
                return fail(NO_ROOM);
            }
            if (!readSign('d')) {
                return false;
            }
            int opensAfter = readNumber(1, 20);
            if (opensAfter < 0 || !readSign(';')) {
                return false;
            }
            street.addDoor(opensAfter);
            return true;
        }

        private boolean readCaller(Street street) {
            int kind = at < length ? kindOfSort(tape[at]) : ANY_CALLER;
            if (kind == ANY_CALLER) {
                return fail(CAN_NOT_STAND);
            }
            if (street.callers >= MOST_CALLERS) {
                return fail(NO_ROOM);
            }
            at++;
            int place = readNumber(0, street.doors - 1);
            if (place < 0 || !readSign(',')) {
                return false;
            }
            int patience = readNumber(0, 20);
            if (patience < 0 || !readSign(';')) {
                return false;
            }
            street.addCaller(kind, place, patience);
            return true;
        }

        private boolean readSign(int sign) {
            if (!nextIs(sign)) {
                return fail(CAN_NOT_STAND);
            }
            at++;
            return true;
        }

        /** The NUMBER that comes next, or -1 if it is a FAULT. */
        private int readNumber(int lowest, int highest) {
            int value = 0;
            int figures = 0;
            for (int k = at; k < length && isFigure(tape[k]) && figures < 3; k++) {
                value = 10 * value + tape[k] - '0';
                figures++;
            }
            boolean isNumber = figures == 1 || figures == 2;
            if (!isNumber || value < lowest || value > highest) {
                fail(isNumber ? NOT_AS_TOLD : CAN_NOT_STAND);
                return -1;
            }
            at += figures;
            return value;
        }

        private boolean nextIs(int sign) {
            return at < length && tape[at] == sign;
        }

        private boolean fail(int number) {
            faultPlace = at;
            faultNumber = number;
            return false;
        }

        private static boolean isFigure(int letter) {
            return letter >= '0' && letter <= '9';
        }

        private static int kindOfSort(int letter) {
            switch (letter) {
                case 'u': return GUEST;
                case 'l': return LOVER;
                case 'b': return BAILIFF;
                case 'p': return POSTMAN;
                case 'k': return CHILD;
                default: return ANY_CALLER;
            }
        }
    }

    /** The ACTS that can be undone, in a ring: of more than there is room for the oldest is written over. */
    private static final class Acts {
        final int[] whats = new int[MOST_ACTS];
        final int[] doors = new int[MOST_ACTS];
        final int[] befores = new int[MOST_ACTS];
        int next = 0;
        int kept = 0;

        void forgetAll() {
            next = 0;
            kept = 0;
        }

        void keep(int what, int door, int before) {
            whats[next] = what;
            doors[next] = door;
            befores[next] = before;
            next = (next + 1) % MOST_ACTS;
            kept = Math.min(kept + 1, MOST_ACTS);
        }

        void takeBackLatest(Street street) {
            next = (next + MOST_ACTS - 1) % MOST_ACTS;
            kept = Math.max(kept - 1, 0);
            int door = doors[next];
            int before = befores[next];
            switch (whats[next]) {
                case ACT_COUGH: street.coughs[door] = before; break;
                case ACT_DOG: street.dogs[door] = before; break;
                case ACT_STRETCH: street.stretches[door] = before; break;
                default: street.takeBackDay(before); break;
            }
        }
    }

    /**
     * LEAST. Once it is said where DOGS are, DOORS do not touch each other any more: so the
     * cheapest of each DOOR is weighed once, by whether a DOG is HEARD there, and then all
     * ways to lay DOGS are gone through.
     */
    private static final class Laying {
        private static final int CAN_NOT = -1;

        /** At 2 times the DOOR, 1 more if a DOG is HEARD: 4 times STRETCH, 2 if there is a COUGH; CAN_NOT. */
        final int[] cheapest = new int[2 * MOST_DOORS];
        int doors = 0;
        int chosen = 0;
        int total = CAN_NOT;

        void weigh(Street street, int meet, int not) {
            doors = street.doors;
            for (int door = 0; door < doors; door++) {
                int there = street.callersAt(door);
                for (int heard = 0; heard < 2; heard++) {
                    cheapest[2 * door + heard] = cheapestAt(street, door, heard, meet & there, not & there);
                }
            }
        }

        /** Whether there is a way; then chosen tells its DOGS (bits), total how many all are. */
        boolean choose() {
            total = CAN_NOT;
            for (int dogs = 0; dogs < 1 << doors; dogs++) {
                int sum = totalOf(dogs);
                boolean isFewer = sum != CAN_NOT && (total == CAN_NOT || sum < total);
                if (isFewer || (sum != CAN_NOT && sum == total && isAhead(dogs, chosen))) {
                    total = sum;
                    chosen = dogs;
                }
            }
            return total != CAN_NOT;
        }

        int firstThatCanNot() {
            for (int door = 0; door < doors; door++) {
                if (cheapest[2 * door] == CAN_NOT && cheapest[2 * door + 1] == CAN_NOT) {
                    return door;
                }
            }
            return NONE;
        }

        int codeAt(int door, int dogs) {
            int near = 7 << door >> 1;
            int heard = (dogs & near) != 0 ? 1 : 0;
            int code = cheapest[2 * door + heard];
            return code == CAN_NOT ? CAN_NOT : code + (dogs >> door & 1);
        }

        private int totalOf(int dogs) {
            int sum = 0;
            for (int door = 0; door < doors; door++) {
                int code = codeAt(door, dogs);
                if (code == CAN_NOT) {
                    return CAN_NOT;
                }
                sum += costOf(code);
            }
            return sum;
        }

        private boolean isAhead(int dogs, int others) {
            for (int door = 0; door < doors; door++) {
                int code = codeAt(door, dogs);
                int other = codeAt(door, others);
                if (code != other) {
                    return code < other;
                }
            }
            return false;
        }

        private static int costOf(int code) {
            return (code >> 2) + (code >> 1 & 1) + (code & 1);
        }

        private static int cheapestAt(Street street, int door, int heard, int meet, int not) {
            int best = CAN_NOT;
            for (int code = 0; code <= 4 * MOST_STRETCH + 2; code += 2) {
                boolean isFewer = best == CAN_NOT || costOf(code) < costOf(best);
                if (isFewer && meetersAt(street, door, heard, code, meet | not) == meet) {
                    best = code;
                }
            }
            return best;
        }

        /** Those of a set of callers at a DOOR who would MEET. */
        private static int meetersAt(Street street, int door, int heard, int code, int set) {
            int stretched = code >> 2;
            int coughed = code >> 1 & 1;
            int opens = Street.opening(street.openings[door], stretched, coughed, heard);
            int meeting = 0;
            for (int one = 0; one < street.callers; one++) {
                int stays = Street.staying(street.kinds[one], street.patiences[one], stretched, coughed, heard);
                if ((set >> one & 1) == 1 && opens <= stays) {
                    meeting |= 1 << one;
                }
            }
            return meeting;
        }
    }

    /** ASKS, and THE TRACE that their BODIES leave. */
    private static final class Asker {
        private static final int MOST_NUMBERS = 16;
        private static final int DEEPEST = 16;

        /** By KIND the BODY that begins: its own, that of the nearest KIND that it is, too, or the one lent. */
        private static final int[] SIZE_BODIES = {10, 11, 12, 11, 13, 14};
        private static final int[] MARK_BODIES = {20, 21, 24, 22, 23, 23};

        final int[] numbers = new int[MOST_NUMBERS];
        int left = 0;

        int answer(Street street, int one, int what) {
            left = 0;
            int kind = street.kinds[one];
            return give(what == 0 ? SIZE_BODIES[kind] : MARK_BODIES[kind], street, one, 0);
        }

        /** What a BODY gives; the deepest ask opens six at once, so the guard is never met. */
        private int give(int body, Street street, int one, int depth) {
            if (depth > DEEPEST) {
                return 0;
            }
            leave(body);
            int kind = street.kinds[one];
            int under = depth + 1;
            switch (body) {
                case 10: return street.patiences[one];
                case 11: return give(10, street, one, under) + give(MARK_BODIES[kind], street, one, under);
                case 12: return -give(11, street, one, under);
                case 13: return give(10, street, one, under) - 100;
                case 14: return 2 * give(13, street, one, under);
                case 20: return one;
                case 21: return give(20, street, one, under) + street.places[one];
                case 22: return give(21, street, one, under) - 1000;
                case 23: return give(20, street, one, under) - give(SIZE_BODIES[kind], street, one, under);
                case 24: return 2 * give(21, street, one, under);
                default: return 0;
            }
        }

        private void leave(int body) {
            if (left < MOST_NUMBERS) {
                numbers[left] = body;
                left++;
            }
        }
    }
}
