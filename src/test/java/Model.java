import java.math.BigInteger;
import java.util.ArrayDeque;
import java.util.ArrayList;
import java.util.Arrays;
import java.util.Deque;
import java.util.List;

/** The document written a second time, plainly and apart from DoorBell: what a call is due to answer. */
final class Model {
    static final int NONE = -1000000, BAD = -1000001, STATE = -1000002, FULL = -1000003;

    /** A street; days and acts make a new one, so that undo and images only keep old ones. */
    static final class Town {
        int seconds, sounds, day;
        int[] opens = {}, stretch = {}, cough = {}, dog = {};
        char[] sort = {};
        int[] at = {}, patience = {}, met = {};

        Town copy() {
            Town t = new Town();
            t.seconds = seconds;
            t.sounds = sounds;
            t.day = day;
            t.opens = opens.clone();
            t.stretch = stretch.clone();
            t.cough = cough.clone();
            t.dog = dog.clone();
            t.sort = sort.clone();
            t.at = at.clone();
            t.patience = patience.clone();
            t.met = met.clone();
            return t;
        }

        boolean heard(int d) {
            for (int e = 0; e < dog.length; e++) {
                if (dog[e] == 1 && Math.abs(e - d) <= 1) {
                    return true;
                }
            }
            return false;
        }

        int opening(int d) {
            int t = opens[d];
            t += stretch[d];
            if (heard(d)) t += 2;
            if (cough[d] == 1) t -= 1;
            return t < 0 ? 0 : t;
        }

        int stay(int c) {
            int d = at[c];
            int guest = patience[c] + (cough[d] == 1 ? 2 : 0);
            if (sort[c] == 'u') return guest;
            if (sort[c] == 'l') return guest + stretch[d];
            if (sort[c] == 'b') return guest + guest;
            int post = patience[c] > 3 ? 3 : patience[c];
            if (sort[c] == 'p') return post;
            return heard(d) && post > 1 ? 1 : post;
        }

        boolean meeting(int c) {
            return opening(at[c]) <= stay(c);
        }

        int meetBits() {
            int bits = 0;
            for (int c = 0; c < sort.length; c++) {
                if (meeting(c)) bits += 1 << c;
            }
            return bits;
        }

        Town tomorrow() {
            Town t = copy();
            for (int c = 0; c < sort.length; c++) {
                if (meeting(c)) {
                    t.met[c]++;
                } else {
                    t.at[c] = at[c] + 1 == opens.length ? 0 : at[c] + 1;
                }
            }
            t.day++;
            return t;
        }
    }

    final Object[] rows = new Object[8];
    final StringBuilder tape = new StringBuilder();
    final Town[] images = new Town[2];
    final Deque<Town> acts = new ArrayDeque<>();
    List<Integer> trace = new ArrayList<>();
    Town town = null;
    int fault = 0, status = 0;

    private int found(int f) {
        status = f;
        return -1000010 - f;
    }

    private int fine(int answer) {
        status = 0;
        return answer;
    }

    private static boolean in(int v, int from, int to) {
        return from <= v && v <= to;
    }

    private static int size(Object row) {
        return java.lang.reflect.Array.getLength(row);
    }

    private static int item(Object row, int i) {
        return ((Number) java.lang.reflect.Array.get(row, i)).intValue();
    }

    int row(int row, int lane, int n) {
        if (!in(row, 0, 7) || !in(lane, 0, 2) || n > 40) return BAD;
        if (n < 0) return found(4);
        rows[row] = lane == 0 ? new byte[n] : lane == 1 ? new short[n] : (Object) new int[n];
        return fine(n);
    }

    int set(int row, int i, int v) {
        if (!in(row, 0, 7)) return BAD;
        if (rows[row] == null) return found(1);
        if (!in(i, 0, size(rows[row]) - 1)) return found(2);
        if (rows[row] instanceof byte[] b) b[i] = (byte) v;
        if (rows[row] instanceof short[] s) s[i] = (short) v;
        if (rows[row] instanceof int[] n) n[i] = v;
        return fine(item(rows[row], i));
    }

    int copy(int a, int i, int b, int j, int n) {
        if (!in(a, 0, 7) || !in(b, 0, 7)) return BAD;
        if (rows[a] == null || rows[b] == null) return found(1);
        try {
            System.arraycopy(rows[a], i, rows[b], j, n);
        } catch (ArrayStoreException e) {
            return found(5);
        } catch (IndexOutOfBoundsException e) {
            return found(2);
        }
        return fine(n);
    }

    int drop(int row) {
        if (!in(row, 0, 7)) return BAD;
        if (rows[row] == null) return found(1);
        int n = size(rows[row]);
        rows[row] = null;
        return fine(n);
    }

    int feed(int letter) {
        if (!in(letter, 0, 255)) return BAD;
        if (tape.length() == 100) return FULL;
        tape.append((char) letter);
        return tape.length();
    }

    int street() {
        String text = tape.toString();
        tape.setLength(0);
        Text read = new Text(text);
        if (read.fault != 0) {
            fault = read.fault;
            return -1000100 - read.place;
        }
        town = read.town;
        acts.clear();
        return town.sort.length;
    }

    /** A text by its tokens: first all are cut, then a small machine of states goes over them. */
    static final class Text {
        int fault = 0, place = 0;
        Town town = new Town();

        Text(String text) {
            List<String> tokens = new ArrayList<>();
            List<Integer> places = new ArrayList<>();
            for (int i = 0; i < text.length();) {
                int to = i;
                while (to < text.length() && text.charAt(to) >= '0' && text.charAt(to) <= '9') to++;
                to = to == i ? i + 1 : to;
                tokens.add(text.substring(i, to));
                places.add(i);
                i = to;
            }
            String state = "law";
            for (int k = 0; k < tokens.size() && fault == 0; k++) {
                place = places.get(k);
                state = step(state, tokens.get(k));
            }
            if (fault == 0 && !state.equals("door or caller") && !state.equals("caller")) {
                fault = 1;
                place = text.length();
            }
        }

        private String wrong(int f) {
            fault = f;
            return "";
        }

        private static int[] with(int[] a, int v) {
            int[] b = Arrays.copyOf(a, a.length + 1);
            b[a.length] = v;
            return b;
        }

        private String step(String state, String token) {
            boolean number = token.matches("[0-9]{1,2}");
            int v = number ? Integer.parseInt(token) : -1;
            switch (state) {
                case "law": return token.equals("g") ? "seconds" : wrong(1);
                case "seconds":
                    town.seconds = v;
                    return !number ? wrong(1) : v > 60 ? wrong(2) : "comma of law";
                case "comma of law": return token.equals(",") ? "sounds" : wrong(1);
                case "sounds":
                    town.sounds = v;
                    return !number ? wrong(1) : v > 12 ? wrong(2) : "end of law";
                case "end of law": return token.equals(";") ? "door" : wrong(1);
                case "door": return token.equals("d") ? "opens" : wrong(1);
                case "opens":
                    if (!number) return wrong(1);
                    if (v < 1 || v > 20) return wrong(2);
                    town.opens = with(town.opens, v);
                    return "end of door";
                case "end of door": return token.equals(";") ? "door or caller" : wrong(1);
                case "door or caller":
                    if (token.equals("d")) return town.opens.length == 6 ? wrong(3) : "opens";
                    return sort(token);
                case "caller": return sort(token);
                case "place":
                    if (!number) return wrong(1);
                    if (v >= town.opens.length) return wrong(2);
                    town.at = with(town.at, v);
                    return "comma of caller";
                case "comma of caller": return token.equals(",") ? "patience" : wrong(1);
                case "patience":
                    if (!number) return wrong(1);
                    if (v > 20) return wrong(2);
                    town.patience = with(town.patience, v);
                    return "end of caller";
                default:
                    int d = town.opens.length;
                    town.stretch = new int[d];
                    town.cough = new int[d];
                    town.dog = new int[d];
                    town.met = new int[town.sort.length];
                    return token.equals(";") ? "caller" : wrong(1);
            }
        }

        private String sort(String token) {
            if (!"ulbpk".contains(token)) return wrong(1);
            if (town.sort.length == 6) return wrong(3);
            town.sort = (new String(town.sort) + token).toCharArray();
            return "place";
        }
    }

    /** Texts without callers end behind a door, where nothing has been laid out yet. */
    private Town here() {
        if (town != null && town.stretch.length != town.opens.length) {
            int d = town.opens.length;
            town.stretch = new int[d];
            town.cough = new int[d];
            town.dog = new int[d];
            town.met = new int[town.sort.length];
        }
        return town;
    }

    private boolean noDoor(int d) {
        return here() == null || !in(d, 0, town.opens.length - 1);
    }

    private boolean noCaller(int c) {
        return here() == null || !in(c, 0, town.sort.length - 1);
    }

    private void act(Town next) {
        acts.push(town);
        if (acts.size() > 24) acts.removeLast();
        town = next;
    }

    int undo() {
        if (acts.isEmpty()) return STATE;
        town = acts.pop();
        return acts.size();
    }

    int stretch(int d, int n) {
        if (noDoor(d) || !in(n, 0, 5)) return BAD;
        Town next = town.copy();
        next.stretch[d] = n;
        if (Arrays.stream(next.stretch).sum() > town.seconds) return FULL;
        int was = town.stretch[d];
        act(next);
        return was;
    }

    int sound(int d, int what, int on) {
        if (noDoor(d) || !in(what, 0, 1) || !in(on, 0, 1)) return BAD;
        Town next = town.copy();
        int[] laid = what == 0 ? next.cough : next.dog;
        if (laid[d] == on) return STATE;
        laid[d] = on;
        int sounds = Arrays.stream(next.cough).sum() + Arrays.stream(next.dog).sum();
        if (sounds > town.sounds) return FULL;
        act(next);
        return sounds;
    }

    int days(int n) {
        if (here() == null) return STATE;
        if (!in(n, 1, 24)) return BAD;
        if (town.day + n > 999) return FULL;
        int bits = 0;
        for (int k = 0; k < n; k++) {
            bits = town.meetBits();
            act(town.tomorrow());
        }
        return bits;
    }

    int door(int d, int what) {
        if (noDoor(d) || !in(what, 0, 6)) return BAD;
        int there = 0;
        for (int c = 0; c < town.sort.length; c++) {
            if (town.at[c] == d) there += 1 << c;
        }
        return new int[] {town.opens[d], town.stretch[d], town.cough[d], town.dog[d], town.heard(d) ? 1 : 0,
            town.opening(d), there}[what];
    }

    int caller(int c, int what) {
        if (noCaller(c) || !in(what, 0, 4)) return BAD;
        return new int[] {town.at[c], town.patience[c], town.stay(c), town.meeting(c) ? 1 : 0, town.met[c]}[what];
    }

    int used(int what) {
        if (here() == null) return STATE;
        if (!in(what, 0, 1)) return BAD;
        int s = Arrays.stream(town.stretch).sum();
        return what == 0 ? s : Arrays.stream(town.cough).sum() + Arrays.stream(town.dog).sum();
    }

    int meets() {
        return here() == null ? STATE : town.meetBits();
    }

    int nothing() {
        if (here() == null) return STATE;
        for (int d = 0; d < town.opens.length; d++) {
            boolean any = false, met = false;
            for (int c = 0; c < town.sort.length; c++) {
                any |= town.at[c] == d;
                met |= town.at[c] == d && town.meeting(c);
            }
            if (any && !met) return d;
        }
        return NONE;
    }

    int ahead(int c, int n, int what) {
        if (noCaller(c) || !in(n, 0, 60) || !in(what, 0, 1)) return BAD;
        Town t = town;
        for (int k = 0; k < n; k++) t = t.tomorrow();
        return what == 0 ? t.at[c] : t.met[c];
    }

    int soon(int c) {
        if (noCaller(c)) return BAD;
        Town t = town;
        for (int k = 0; k <= 60; k++) {
            if (t.meeting(c)) return k;
            t = t.tomorrow();
        }
        return NONE;
    }

    private boolean badSets(int meet, int not) {
        int all = (1 << town.sort.length) - 1;
        return !in(meet, 0, all) || !in(not, 0, all) || (meet & not) != 0;
    }

    /** Whether all told callers at a door do as told, in a town whose dogs there and next to it are laid. */
    private static boolean suits(Town t, int d, int meet, int not) {
        for (int c = 0; c < t.sort.length; c++) {
            if (t.at[c] == d && (meet >> c & 1) == 1 && !t.meeting(c)) return false;
            if (t.at[c] == d && (not >> c & 1) == 1 && t.meeting(c)) return false;
        }
        return true;
    }

    /** In the order that the document tells; the first that has exactly so many is the answer. */
    private static boolean search(Town t, int d, int left, int meet, int not) {
        int doors = t.opens.length;
        if (d >= 2 && !suits(t, d - 2, meet, not)) return false;
        if (d == doors) return left == 0 && suits(t, d - 1, meet, not);
        for (int s = 0; s <= 5; s++) {
            for (int c = 0; c <= 1; c++) {
                for (int g = 0; g <= 1; g++) {
                    if (s + c + g > left) continue;
                    t.stretch[d] = s;
                    t.cough[d] = c;
                    t.dog[d] = g;
                    if (search(t, d + 1, left - s - c - g, meet, not)) return true;
                }
            }
        }
        t.stretch[d] = t.cough[d] = t.dog[d] = 0;
        return false;
    }

    /** Searches by how many there are in all; a door that alone can not makes the search vain and long. */
    int least(int meet, int not, int d) {
        if (here() == null) return STATE;
        if (badSets(meet, not) || d != -1 && noDoor(d)) return BAD;
        if (whichDoor(meet, not) != NONE) return NONE;
        Town t = town.copy();
        int doors = t.opens.length;
        for (int total = 0; total <= 7 * doors; total++) {
            if (search(t, 0, total, meet, not)) {
                return d == -1 ? total : 4 * t.stretch[d] + 2 * t.cough[d] + t.dog[d];
            }
            if (total > 9 && doors > 3 && !possible(meet, not)) return NONE;
        }
        return NONE;
    }

    /** Whether some dogs leave each door a way: used only to end long vain searches. */
    private boolean possible(int meet, int not) {
        Town t = town.copy();
        for (int dogs = 0; dogs < 1 << t.opens.length; dogs++) {
            boolean all = true;
            for (int d = 0; d < t.opens.length && all; d++) {
                all = suitsSome(t, d, dogs, meet, not);
            }
            if (all) return true;
        }
        return false;
    }

    private static boolean suitsSome(Town t, int d, int dogs, int meet, int not) {
        for (int e = 0; e < t.opens.length; e++) t.dog[e] = dogs >> e & 1;
        for (int sc = 0; sc < 12; sc++) {
            t.stretch[d] = sc / 2;
            t.cough[d] = sc % 2;
            if (suits(t, d, meet, not)) return true;
        }
        return false;
    }

    int whichDoor(int meet, int not) {
        if (here() == null) return STATE;
        if (badSets(meet, not)) return BAD;
        for (int d = 0; d < town.opens.length; d++) {
            boolean some = false;
            for (int dogs = 0; dogs < 1 << town.opens.length; dogs++) {
                some |= suitsSome(town.copy(), d, dogs, meet, not);
            }
            if (!some) return d;
        }
        return NONE;
    }

    int who(int c, int row, int i, int n) {
        if (noCaller(c) || !in(row, 0, 7) || !in(n, 1, 12)) return BAD;
        if (rows[row] == null) return found(1);
        if (i < 0 || (long) i + n > size(rows[row])) return found(2);
        int bits = 0;
        for (int kind = 1; kind <= 5; kind++) {
            Town t = town.copy();
            t.sort[c] = " ulbpk".charAt(kind);
            boolean same = true;
            for (int k = 0; k < n; k++) {
                same &= item(rows[row], i + k) == (t.meeting(c) ? 1 : 0);
                t = t.tomorrow();
            }
            if (same) bits += 1 << kind;
        }
        return fine(bits);
    }

    long sleeps(int c, int p, int what) {
        if (noCaller(c) || !in(p, 0, 10) || !in(what, 0, 1)) return BAD;
        int doors = town.opens.length;
        BigInteger above = BigInteger.ZERO;
        for (int asleep = 0; asleep < 1 << doors; asleep++) {
            Town t = town.copy();
            BigInteger weight = BigInteger.ONE;
            for (int d = 0; d < doors; d++) {
                boolean sleeps = (asleep >> d & 1) == 1;
                weight = weight.multiply(BigInteger.valueOf(sleeps ? p : 10 - p));
                if (sleeps) t.stretch[d] = t.cough[d] = t.dog[d] = 0;
            }
            if (t.meeting(c)) above = above.add(weight);
        }
        BigInteger below = BigInteger.TEN.pow(doors);
        BigInteger shared = above.gcd(below);
        return (what == 0 ? above : below).divide(shared).longValueExact();
    }

    int reaches(int d, int what) {
        if (noDoor(d) || !in(what, 0, 1)) return BAD;
        if (what == 0) {
            int bits = 0;
            for (int e = 0; e < town.opens.length; e++) {
                if (Math.abs(e - d) < 2) bits += 1 << e;
            }
            return bits;
        }
        Town t = town.copy();
        t.cough[d] = t.dog[d] = 0;
        int bits = 0;
        for (int c = 0; c < town.sort.length; c++) {
            if (t.meeting(c) != town.meeting(c)) bits += 1 << c;
        }
        return bits;
    }

    int rather(int row, int i, int what) {
        if (!in(row, 0, 7) || !in(what, 0, 1)) return BAD;
        if (rows[row] == null) return found(1);
        if (i < 0 || (long) i + 8 > size(rows[row])) return found(2);
        int[] a = new int[4], b = new int[4];
        for (int k = 0; k < 4; k++) {
            a[k] = item(rows[row], i + k);
            b[k] = item(rows[row], i + 4 + k);
            if (!in(a[k], -20, 20) || !in(b[k], -20, 20)) return BAD;
        }
        int bits = 0;
        if (a[0] >= a[2] && b[0] >= b[1]) bits += 1;
        if (a[1] >= a[3] && b[1] >= b[0]) bits += 2;
        if (a[2] >= a[0] && b[2] >= b[3]) bits += 4;
        if (a[3] >= a[1] && b[3] >= b[2]) bits += 8;
        return fine(what == 1 ? bits : Integer.bitCount(bits));
    }

    int drawn(int n, int seed, int what) {
        if (here() == null) return STATE;
        if (!in(n, 0, 60) || !in(seed, 1, 999999) || !in(what, 0, 1)) return BAD;
        Town t = town.copy();
        BigInteger x = BigInteger.valueOf(seed);
        int before = Arrays.stream(t.met).sum();
        for (int k = 0; k < n; k++) {
            x = x.multiply(BigInteger.valueOf(16807)).mod(BigInteger.valueOf(2147483647));
            int y = x.intValueExact();
            int d = y % t.opens.length;
            t.stretch[d] = y % 6;
            t.cough[d] = y % 2 == 0 ? 1 : 0;
            t.dog[d] = y % 3 == 0 ? 1 : 0;
            t = t.tomorrow();
        }
        return what == 0 ? Arrays.stream(t.met).sum() - before : Arrays.stream(t.at).sum();
    }

    int image(int k) {
        if (!in(k, 0, 1)) return BAD;
        if (here() == null) return STATE;
        images[k] = town;
        return 1;
    }

    int restore(int k) {
        if (!in(k, 0, 1)) return BAD;
        if (images[k] == null) return STATE;
        town = images[k];
        acts.clear();
        return 1;
    }

    int kind(int c) {
        return noCaller(c) ? BAD : " ulbpk".indexOf(town.sort[c]);
    }

    /** The kinds as Java's own: what a cast takes, a cast of the document takes. */
    private static class Caller {
        int number, place, patience;
        List<Integer> left;

        int size() {
            left.add(10);
            return patience;
        }

        int mark() {
            left.add(20);
            return number;
        }
    }

    private static class Guest extends Caller {
        @Override int size() {
            left.add(11);
            return super.size() + mark();
        }

        @Override int mark() {
            left.add(21);
            return super.mark() + place;
        }
    }

    private static final class Lover extends Guest {
        @Override int size() {
            left.add(12);
            return 0 - super.size();
        }

        @Override int mark() {
            left.add(24);
            return super.mark() * 2;
        }
    }

    private static final class Bailiff extends Guest {
        @Override int mark() {
            left.add(22);
            return super.mark() - 1000;
        }
    }

    private static class Postman extends Caller {
        @Override int size() {
            left.add(13);
            return super.size() - 100;
        }

        @Override int mark() {
            left.add(23);
            return super.mark() - size();
        }
    }

    private static final class Child extends Postman {
        @Override int size() {
            left.add(14);
            return super.size() * 2;
        }
    }

    private Caller body(int c) {
        Caller one = switch (town.sort[c]) {
            case 'u' -> new Guest();
            case 'l' -> new Lover();
            case 'b' -> new Bailiff();
            case 'p' -> new Postman();
            default -> new Child();
        };
        one.number = c;
        one.place = town.at[c];
        one.patience = town.patience[c];
        one.left = new ArrayList<>();
        return one;
    }

    int as(int c, int kind) {
        if (noCaller(c) || !in(kind, 0, 5)) return BAD;
        Class<?>[] kinds = {Caller.class, Guest.class, Lover.class, Bailiff.class, Postman.class, Child.class};
        return kinds[kind].isInstance(body(c)) ? fine(c) : found(3);
    }

    int ask(int c, int what) {
        if (noCaller(c) || !in(what, 0, 1)) return BAD;
        Caller one = body(c);
        int answer = what == 0 ? one.size() : one.mark();
        trace = one.left;
        return answer;
    }

    int trace(int i) {
        return in(i, 0, Math.min(16, trace.size()) - 1) ? trace.get(i) : NONE;
    }

    int count(int what) {
        if (!in(what, 0, 8)) return BAD;
        int there = 0;
        for (Object row : rows) there += row == null ? 0 : 1;
        Town t = here() == null ? new Town() : town;
        return new int[] {there, t.opens.length, t.sort.length, t.seconds, t.sounds, t.day,
            Arrays.stream(t.met).sum(), acts.size(), tape.length()}[what];
    }
}
