import java.util.ArrayList;
import java.util.List;
import java.util.function.Supplier;

/** Like objects, made as often as they are wanted, and all there is to ask of one: so a change shows. */
final class Twins {
    // ---- three objects in the midst of things, each with status() 2 (PLACE)

    static final int STATUS = 2;
    private static final int MOST_ITEMS = 11;

    private static void layRows(DoorBell b) {
        Check.fill(b, 0, 0, 1, 0, 1, 1, 0, 5, -5, 20, -20, 7);
        Check.fill(b, 1, 1, 3, -3, 0, 0, 3, 0, -3, 0);
        Check.fill(b, 2, 2);
        Check.fill(b, 4, 0, 0, 0, 0, 0, 0, 0, 0, 21);
    }

    private static void findPlace(DoorBell b) {
        b.set(0, 10, 1);
    }

    static DoorBell withoutStreet() {
        DoorBell b = new DoorBell();
        layRows(b);
        Check.read(b, "g61");
        Check.feed(b, "g3,2;d4;u0,4;");
        findPlace(b);
        return b;
    }

    static DoorBell inTheMidst() {
        DoorBell b = Check.told("g6,3;d5;d3;d9;u0,4;l1,2;b2,5;p1,6;k0,9;");
        layRows(b);
        b.stretch(1, 2);
        b.days(2);
        b.image(0);
        b.sound(0, 0, 1);
        b.stretch(1, 1);
        b.sound(2, 1, 1);
        b.days(1);
        b.ask(1, 0);
        Check.read(b, "g6,");
        Check.feed(b, "g3,2;d4;u0,4;");
        findPlace(b);
        return b;
    }

    static DoorBell full() {
        DoorBell b = Check.told("g3,2;d5;d3;u0,4;l1,2;");
        layRows(b);
        for (int k = 0; k < 41; k++) {
            b.days(24);
        }
        b.days(15);
        b.stretch(0, 2);
        b.stretch(1, 1);
        b.sound(0, 0, 1);
        b.sound(1, 1, 1);
        for (int k = 0; k < 100; k++) {
            b.feed(k == 0 ? 'g' : 'x');
        }
        findPlace(b);
        return b;
    }

    /** Objects as the state makes them, and one call made on each. */
    static Supplier<DoorBell> behind(Supplier<DoorBell> state, Check.Call call) {
        return () -> {
            DoorBell b = state.get();
            call.of(b);
            return b;
        };
    }

    // ---- all there is to ask

    /** Each question goes to an object of its own, so that none is used for more than 512 calls. */
    static List<Long> probe(Supplier<DoorBell> state) {
        List<Long> all = new ArrayList<>(Check.seen(state.get()));
        for (int row = 0; row <= 7; row++) {
            probeRow(state.get(), row, all);
        }
        for (int acts = 1; acts <= 25; acts++) {
            DoorBell b = state.get();
            for (int k = 0; k < acts; k++) {
                all.add((long) b.undo());
            }
            all.addAll(Check.seen(b));
        }
        for (int k = 0; k <= 1; k++) {
            DoorBell b = state.get();
            all.add((long) b.restore(k));
            all.addAll(Check.seen(b));
        }
        DoorBell b = state.get();
        all.add((long) b.street());
        all.addAll(Check.seen(b));
        return all;
    }

    private static void probeRow(DoorBell b, int row, List<Long> all) {
        int beside = row == 7 ? 6 : 7;
        for (int lane = 0; lane <= 2; lane++) {
            for (int i = 0; i < MOST_ITEMS; i++) {
                b.row(beside, lane, 8);
                int copied = b.copy(row, i, beside, 0, 1);
                all.add(copied == 1 ? item(b, beside) : copied);
                if (copied == Check.NULL || copied == Check.STORE) {
                    break;
                }
            }
        }
        all.add((long) b.drop(row));
    }

    /** The first ITEM of a game, by how it stands to the third; BAD if it is not -20 to 20. */
    private static long item(DoorBell b, int row) {
        int least = -20, most = 20;
        while (least < most) {
            int middle = Math.floorDiv(least + most, 2);
            b.set(row, 2, middle);
            int ways = b.rather(row, 0, 1);
            if (ways < 0) {
                return ways;
            }
            boolean isMore = (ways >> 2 & 1) == 0;
            least = isMore ? middle + 1 : least;
            most = isMore ? most : middle;
        }
        return least;
    }
}
