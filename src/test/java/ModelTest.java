import java.util.Random;

/** Long runs of drawn calls, ordinary and wild, answered by DoorBell as by the plain model. */
public final class ModelTest {
    private static final int[] WILD = {Integer.MIN_VALUE, Integer.MIN_VALUE + 1, -1000000, -2, -1, 7, 8, 25, 40, 41,
        61, 64, 99, 256, 1000000, Integer.MAX_VALUE - 1, Integer.MAX_VALUE};
    /** The dearest step, a text that is told, makes some 70 calls: an object is used for 512 at most. */
    private static final int RUNS = 4000, LAST_STEP_AHEAD_OF = 400;

    private static Random random;
    private static DoorBell bell;
    private static Model model;
    private static int wrong = 0, called = 0;
    private static StringBuilder told;

    public static void main(String[] args) {
        long seen = 0;
        for (int run = 0; run < RUNS && wrong < 20; run++) {
            random = new Random(run);
            bell = new DoorBell();
            model = new Model();
            told = new StringBuilder();
            called = 0;
            while (called < LAST_STEP_AHEAD_OF && wrong < 20) {
                step();
                compareFindings();
                seen++;
            }
        }
        System.out.println(wrong == 0 ? seen + " steps are as the model's" : wrong + " answers are not as the model's");
        if (wrong != 0) {
            System.exit(1);
        }
    }

    private static void same(String call, long got, long want) {
        called++;
        told.append(call).append(" = ").append(got).append('\n');
        if (got != want) {
            wrong++;
            System.out.println("model answers " + want + " at the end of\n" + told);
        }
    }

    private static void compareFindings() {
        called += 2;
        if (bell.status() != model.status || bell.fault() != model.fault) {
            wrong++;
            System.out.println("status or fault differ at the end of\n" + told);
        }
    }

    /** Mostly 0 .. most, at times one beyond, at times far out. */
    private static int number(int most) {
        int luck = random.nextInt(60);
        if (luck == 0) {
            return WILD[random.nextInt(WILD.length)];
        }
        if (luck == 1) {
            return random.nextBoolean() ? -1 : most + 1;
        }
        return random.nextInt(most + 1);
    }

    private static int caller() {
        return number(Math.max(0, model.count(2) - 1));
    }

    private static int door() {
        return number(Math.max(0, model.count(1) - 1));
    }

    private static String text() {
        StringBuilder s = new StringBuilder("g");
        s.append(number(60)).append(',').append(number(12)).append(';');
        int doors = 1 + random.nextInt(random.nextInt(12) == 0 ? 7 : 6);
        for (int d = 0; d < doors; d++) {
            s.append('d').append(1 + number(random.nextBoolean() ? 8 : 19)).append(';');
        }
        int callers = random.nextInt(random.nextInt(12) == 0 ? 8 : 7);
        for (int c = 0; c < callers; c++) {
            s.append("ulbpk".charAt(random.nextInt(5))).append(number(doors - 1)).append(',');
            s.append(number(random.nextBoolean() ? 7 : 20)).append(';');
        }
        if (random.nextInt(5) == 0) {
            int at = random.nextInt(s.length());
            String put = "gdulbpk,;0123456789 qA-";
            char letter = put.charAt(random.nextInt(put.length()));
            switch (random.nextInt(4)) {
                case 0: s.deleteCharAt(at); break;
                case 1: s.insert(at, letter); break;
                case 2: s.setCharAt(at, letter); break;
                default: s.setLength(at); break;
            }
        }
        return s.toString();
    }

    private static void step() {
        switch (random.nextInt(30)) {
            case 0: case 1: case 2: rows(); break;
            case 3: case 4: if (random.nextInt(8) == 0 || model.town == null) tell(); else acts(); break;
            case 5: case 6: case 7: case 8: acts(); break;
            case 9: case 10: case 11: look(); break;
            case 12: case 13: sets(); break;
            case 14: case 15: whoMet(); break;
            case 16: game(); break;
            case 17: case 18: images(); break;
            case 19: case 20: asks(); break;
            default: foretold(); break;
        }
    }

    private static void tell() {
        String s = text();
        for (int i = 0; i < s.length(); i++) {
            int letter = s.charAt(i);
            same("feed(" + letter + ")", bell.feed(letter), model.feed(letter));
        }
        if (random.nextInt(10) != 0) {
            same("street() of " + s, bell.street(), model.street());
        }
    }

    private static void rows() {
        int a = number(7), b = number(7), i = number(40), j = number(12), n = number(12);
        switch (random.nextInt(4)) {
            case 0: {
                int lane = number(2), size = number(40);
                same("row(" + a + ", " + lane + ", " + size + ")", bell.row(a, lane, size), model.row(a, lane, size));
                break;
            }
            case 1: {
                int v = random.nextBoolean() ? number(1) : random.nextInt() >> random.nextInt(32);
                same("set(" + a + ", " + i + ", " + v + ")", bell.set(a, i, v), model.set(a, i, v));
                break;
            }
            case 2:
                same("copy(" + a + ", " + j + ", " + b + ", " + i + ", " + n + ")",
                    bell.copy(a, j, b, i, n), model.copy(a, j, b, i, n));
                break;
            default:
                if (random.nextInt(4) == 0) {
                    same("drop(" + a + ")", bell.drop(a), model.drop(a));
                }
        }
    }

    private static void acts() {
        int d = door(), n = number(5), what = number(1), on = number(1);
        switch (random.nextInt(8)) {
            case 0: case 1: case 2:
                same("stretch(" + d + ", " + n + ")", bell.stretch(d, n), model.stretch(d, n));
                break;
            case 3: case 4: case 5:
                same("sound(" + d + ", " + what + ", " + on + ")", bell.sound(d, what, on), model.sound(d, what, on));
                break;
            case 6: {
                int k = 1 + number(random.nextBoolean() ? 23 : 2);
                same("days(" + k + ")", bell.days(k), model.days(k));
                break;
            }
            default:
                for (int k = random.nextInt(random.nextBoolean() ? 30 : 3); k >= 0; k--) {
                    same("undo()", bell.undo(), model.undo());
                }
        }
    }

    private static void look() {
        int d = door(), c = caller(), what = number(8);
        same("door(" + d + ", " + what + ")", bell.door(d, what), model.door(d, what));
        same("caller(" + c + ", " + what + ")", bell.caller(c, what), model.caller(c, what));
        same("count(" + what + ")", bell.count(what), model.count(what));
        same("used(" + what + ")", bell.used(what), model.used(what));
        same("meets()", bell.meets(), model.meets());
        same("nothing()", bell.nothing(), model.nothing());
    }

    private static void sets() {
        int all = (1 << model.count(2)) - 1;
        int meet = random.nextInt(64) & random.nextInt(64) & all;
        int not = random.nextInt(64) & all & ~meet;
        not = random.nextBoolean() ? not & random.nextInt(64) : not;
        if (random.nextInt(30) == 0) {
            meet = number(all);
            not = number(all);
        }
        same("whichDoor(" + meet + ", " + not + ")", bell.whichDoor(meet, not), model.whichDoor(meet, not));
        for (int d = -1; d < model.count(1); d++) {
            same("least(" + meet + ", " + not + ", " + d + ")", bell.least(meet, not, d), model.least(meet, not, d));
        }
        int d = door();
        same("least(" + meet + ", " + not + ", " + d + ")", bell.least(meet, not, d), model.least(meet, not, d));
    }

    private static void whoMet() {
        int c = caller(), row = number(7), n = 1 + number(11);
        if (random.nextInt(3) != 0) {
            int first = random.nextInt(8);
            same("row(2, 0, 14)", bell.row(2, 0, 14), model.row(2, 0, 14));
            for (int k = 0; k < 14; k++) {
                int v = k < first ? 0 : random.nextInt(40) == 0 ? number(2) : 1;
                same("set(2, " + k + ", " + v + ")", bell.set(2, k, v), model.set(2, k, v));
            }
            row = 2;
        }
        int i = number(4);
        same("who(" + c + ", " + row + ", " + i + ", " + n + ")", bell.who(c, row, i, n), model.who(c, row, i, n));
    }

    private static void game() {
        int spread = random.nextBoolean() ? 2 : 21;
        same("row(3, 1, 9)", bell.row(3, 1, 9), model.row(3, 1, 9));
        for (int k = 0; k < 9; k++) {
            int v = random.nextInt(2 * spread - 1) - spread + 1 + (random.nextInt(60) == 0 ? 1 : 0);
            same("set(3, " + k + ", " + v + ")", bell.set(3, k, v), model.set(3, k, v));
        }
        int row = random.nextInt(4) == 0 ? number(7) : 3, i = number(1), what = number(1);
        same("rather(" + row + ", " + i + ", " + what + ")", bell.rather(row, i, what), model.rather(row, i, what));
    }

    private static void images() {
        int k = number(1);
        if (random.nextInt(3) != 0) {
            same("image(" + k + ")", bell.image(k), model.image(k));
        } else {
            same("restore(" + k + ")", bell.restore(k), model.restore(k));
        }
    }

    private static void asks() {
        int c = caller(), what = number(1), kind = number(5), i = number(6);
        same("kind(" + c + ")", bell.kind(c), model.kind(c));
        same("as(" + c + ", " + kind + ")", bell.as(c, kind), model.as(c, kind));
        same("ask(" + c + ", " + what + ")", bell.ask(c, what), model.ask(c, what));
        same("trace(" + i + ")", bell.trace(i), model.trace(i));
    }

    private static void foretold() {
        int c = caller(), d = door(), n = number(random.nextBoolean() ? 60 : 6), what = number(1);
        int p = number(10), seed = 1 + number(random.nextBoolean() ? 999998 : 100);
        same("ahead(" + c + ", " + n + ", " + what + ")", bell.ahead(c, n, what), model.ahead(c, n, what));
        same("soon(" + c + ")", bell.soon(c), model.soon(c));
        same("sleeps(" + c + ", " + p + ", " + what + ")", bell.sleeps(c, p, what), model.sleeps(c, p, what));
        same("reaches(" + d + ", " + what + ")", bell.reaches(d, what), model.reaches(d, what));
        same("drawn(" + n + ", " + seed + ", " + what + ")", bell.drawn(n, seed, what), model.drawn(n, seed, what));
    }
}
