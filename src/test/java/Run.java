import java.util.ArrayList;
import java.util.List;
import java.util.function.Consumer;

/**
 * A run of calls with no more of them on one object than are promised. Where reading what came takes more, the run is
 * made again on a new object, without what only looked at the house.
 */
final class Run {
    private static final int PROMISED = 512;

    private final List<Consumer<AddressHouse>> changes = new ArrayList<>();
    private AddressHouse house = new AddressHouse();
    private int calls;
    private int looked = AddressHouse.NONE;

    /** How many calls a run that is made again would have by now. */
    int size() {
        return looked == AddressHouse.NONE ? changes.size() : looked;
    }

    /** What came behind so many calls only looked: it is forgotten as soon as something else comes. */
    void lookedSince(int size) {
        looked = size;
    }

    /** The object for one more call. */
    private AddressHouse next() {
        if (calls >= PROMISED) {
            house = new AddressHouse();
            for (Consumer<AddressHouse> change : changes) {
                change.accept(house);
            }
            calls = changes.size();
        }
        calls++;
        if (calls > PROMISED) {
            throw new RuntimeException("a run of more than " + PROMISED + " calls");
        }
        return house;
    }

    /** The object for one more call that changes what later ones answer. */
    private AddressHouse next(Consumer<AddressHouse> change) {
        if (looked != AddressHouse.NONE) {
            changes.subList(looked, changes.size()).clear();
            looked = AddressHouse.NONE;
        }
        AddressHouse now = next();
        changes.add(change);
        return now;
    }

    boolean feed(int a, int b, int c, int d, int e) {
        return next(h -> h.feed(a, b, c, d, e)).feed(a, b, c, d, e);
    }

    boolean end(int n) {
        return next(h -> h.end(n)).end(n);
    }

    int user() {
        return next(AddressHouse::user).user();
    }

    int open() {
        return next(AddressHouse::open).open();
    }

    int come(int c) {
        return next(h -> comeAgain(h, c)).come(c);
    }

    private static void comeAgain(AddressHouse house, int c) {
        try {
            house.come(c);
        } catch (IllegalStateException e) {
            // The test has had it already, the first time.
            return;
        }
    }

    boolean isOpen(int c) {
        return next().isOpen(c);
    }

    boolean shut(int c) {
        return next(h -> h.shut(c)).shut(c);
    }

    int out() {
        return next().out();
    }

    int outAt(int i) {
        return next().outAt(i);
    }

    int turn(int version) {
        return next(h -> h.turn(version)).turn(version);
    }

    int count(int what) {
        return next().count(what);
    }
}
