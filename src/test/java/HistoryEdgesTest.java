import java.math.BigInteger;

/** The edges of promises 27 (undo), 32 (digest), and of the history: which calls are recorded, and how many are kept. */
public final class HistoryEdgesTest {
    private static final int MOST_STATES = 5;

    public static void main(String[] args) {
        undoOfNothing();
        undoLeft();
        onlyTheLastFive();
        oldestIsDropped();
        undoIsNotRecorded();
        undoneNumbersAreTakenAgain();
        renterAndDayComeBack();
        textIsNotRecorded();
        toldIsNotRecorded();
        emptyDigest();
        digestOfAll();
        digestOverflows();
        digestTellsStatesApart();
        Due.end();
    }

    private static void undoOfNothing() {
        Edge.sentence(27, "BAD_STATE if it is empty");
        Edge.told("a new one", Edge::empty, BookRental::undo, Due.STATE);
        BookRental x = Edge.busy();
        for (int left = 2; left >= 0; left--) {
            Edge.is("undo to " + left, x.undo(), left);
        }
        long before = x.digest();
        Edge.is("undone to the end", x.undo(), Due.STATE);
        Edge.is("and again", x.undo(), Due.STATE);
        Edge.is("nothing is changed", x.digest(), before);
        BookRental y = Edge.shop(0, 9);
        y.undo();
        y.undo();
        Edge.is("back to a new one", y.digest(), new BookRental().digest());
        Edge.is("and no further", y.undo(), Due.STATE);
        y.pass(1);
        Edge.is("but a new call can be undone", y.undo(), 0);
    }

    private static void undoLeft() {
        Edge.sentence(27, "Returns the number of states that are left in it");
        for (int calls = 1; calls <= 12; calls++) {
            BookRental x = Edge.onDay(0);
            for (int i = 0; i < calls; i++) {
                x.pass(1);
            }
            int most = Math.min(calls, MOST_STATES);
            for (int left = most - 1; left >= 0; left--) {
                Edge.is("after " + calls + " calls", x.undo(), left);
                Edge.is("the day after " + calls + " calls", x.count(3), calls - (most - left));
            }
            Edge.is("no more after " + calls + " calls", x.undo(), Due.STATE);
        }
    }

    /** Six calls of each recorded method, each of which returns no error, a few of which change nothing. */
    private static long call(BookRental x, int method, int i) {
        switch (method) {
            case 0: return x.addTitle(100 + i, 1 + i);
            case 1: return x.setPrice(0, 1000 + i / 2);
            case 2: return x.newEdition(0);
            case 3: return x.addCourse(0, 1 + i, i);
            case 4: return x.setCourse(0, 1, 9 + i / 2);
            case 5: return x.set(1, 25 + i / 2);
            case 6: return x.buy(0, 1 + i);
            case 7: return x.buyBack(0, 5, i % 5);
            case 8: return x.sell(i);
            case 9: return x.rent(i, 0);
            case 10: return x.giveBack(i, i % 3);
            case 11: return x.pass(1 + i);
            case 12: return x.shelf(0, 6 - i / 2);
            default: return x.orders();
        }
    }

    private static BookRental madeFor(int method) {
        BookRental x = new BookRental();
        if (method == 0) {
            return x;
        }
        x.addTitle(1000, 5);
        if (method == 3) {
            return x;
        }
        x.addCourse(0, 1, 9);
        x.buy(0, 6);
        for (int customer = 0; method == 10 && customer < 6; customer++) {
            x.rent(customer, 0);
        }
        Due.type(x, "buy 0 1;sell 6;wait 20;wait 0;wait 7");
        return x;
    }

    private static void onlyTheLastFive() {
        Edge.sentence(0, "A history of at most 5 states is kept");
        for (int method = 0; method < 14; method++) {
            BookRental x = madeFor(method);
            long[] before = new long[6];
            for (int i = 0; i < 6; i++) {
                before[i] = x.digest();
                long answer = call(x, method, i);
                Edge.is("method " + method + ", call " + i + " returns no error", answer >= 0 ? 1 : 0, 1);
            }
            for (int i = 5; i >= 1; i--) {
                Edge.is("method " + method + ", undo of call " + i, x.undo(), i - 1);
                Edge.is("method " + method + ", as before call " + i, x.digest(), before[i]);
            }
            Edge.is("method " + method + ", the first call stays", x.undo(), Due.STATE);
            Edge.is("method " + method + ", it stays", x.digest(), before[1]);
        }
    }

    private static void oldestIsDropped() {
        Edge.sentence(0, "when one more is recorded, the oldest one is dropped");
        BookRental x = new BookRental();
        x.addTitle(1000, 5);
        for (int i = 1; i <= 5; i++) {
            x.pass(1);
        }
        for (int i = 0; i < 5; i++) {
            x.undo();
        }
        Edge.is("the title cannot be undone", x.undo(), Due.STATE);
        Edge.is("it is there", x.count(0), 1);
        Edge.is("on the day 0", x.count(3), 0);
        BookRental y = new BookRental();
        y.addTitle(1000, 5);
        for (int i = 1; i <= 4; i++) {
            y.pass(1);
        }
        y.pass(401);
        y.set(0, 9);
        for (int i = 0; i < 4; i++) {
            y.undo();
        }
        Edge.is("a refused call drops nothing", y.undo(), 0);
        Edge.is("the title is undone", y.count(0), 0);
        Edge.sentence(0, "undo() removes and restores the latest one");
        BookRental z = new BookRental();
        for (int round = 0; round < 30; round++) {
            // two are recorded and one is removed, so that the latest one stands at each place once
            z.pass(1);
            long before = z.digest();
            z.pass(3);
            Edge.is("round " + round, z.undo(), Math.min(round + 1, 4));
            Edge.is("the state in round " + round, z.digest(), before);
            Edge.is("the day in round " + round, z.count(3), round + 1);
        }
    }

    private static void undoIsNotRecorded() {
        Edge.sentence(27, "Removes and restores the latest state of the history");
        BookRental x = new BookRental();
        x.pass(1);
        x.pass(2);
        x.undo();
        Edge.is("it cannot be undone", x.undo(), 0);
        Edge.is("the day", x.count(3), 0);
        x.pass(5);
        x.undo();
        Edge.is("nor after another call", x.undo(), Due.STATE);
        Edge.is("the day then", x.count(3), 0);
    }

    private static void undoneNumbersAreTakenAgain() {
        Edge.sentence(0, "record the whole state (all but the text)");
        BookRental x = Edge.shop(3, 9);
        x.addTitle(3000, 7);
        x.addCourse(1, 6, 4);
        x.buy(1, 1);
        x.rent(5, 1);
        long before = x.digest();
        for (int i = 0; i < 4; i++) {
            x.undo();
        }
        Edge.is("undone", x.count(0), 1);
        x.addTitle(4000, 9);
        x.addCourse(0, 2, 5);
        x.buy(0, 1);
        x.rent(6, 1);
        Edge.is("its own title", x.course(1, 0), 0);
        Edge.is("its own least edition", x.course(1, 1), 2);
        Edge.is("its own students", x.course(1, 2), 5);
        int[] copy = {0, 5, 0, 0, -1, -1, 1000, 300, 750, 1, 0};
        for (int what = 0; what < copy.length; what++) {
            Edge.is("copy(3, " + what + ")", x.copy(3, what), copy[what]);
        }
        for (int i = 0; i < 4; i++) {
            x.undo();
        }
        x.addTitle(3000, 7);
        x.addCourse(1, 6, 4);
        x.buy(1, 1);
        x.rent(5, 1);
        Edge.is("the same calls again", x.digest(), before);
    }

    private static void renterAndDayComeBack() {
        Edge.sentence(27, "Removes and restores the latest state of the history");
        BookRental x = Edge.shop(1, 9);
        x.rent(3, 0);
        x.pass(2);
        long before = x.digest();
        x.giveBack(0, 0);
        x.rent(4, 0);
        Edge.is("the new renter", x.copy(0, 4), 4);
        Edge.is("the new day", x.copy(0, 5), 102);
        x.undo();
        x.undo();
        Edge.is("the old renter", x.copy(0, 4), 3);
        Edge.is("the old day", x.copy(0, 5), 100);
        Edge.is("all of it", x.digest(), before);
    }

    private static void textIsNotRecorded() {
        Edge.sentence(0, "record the whole state (all but the text)");
        BookRental x = new BookRental();
        Due.type(x, "wait 1");
        x.pass(5);
        Due.type(x, "00");
        Edge.is("undo()", x.undo(), 0);
        Edge.is("what was typed behind the call stays", x.orders(), 1);
        Edge.is("the day", x.count(3), 100);
        x.clearText();
        x.undo();
        Edge.is("what was cleared stays so", x.clearText(), 0);
        BookRental y = Edge.full();
        y.clearText();
        Edge.is("typing is not recorded", y.type('a'), 1);
        y.undo();
        Edge.is("the text of one sign stays", y.textFault(), 0);
        Edge.is("type of the second one", y.type('b'), 2);
    }

    private static void toldIsNotRecorded() {
        Edge.sentence(0, "The methods that are said to be recorded");
        Edge.Call[] calls = {x -> x.count(0), x -> x.title(0, 0), x -> x.course(0, 0), x -> x.copy(0, 6), x -> x.book(7),
            x -> x.offer(0, 5, 0), x -> x.next(0), x -> x.charge(Edge.RENTED, 4, 2), x -> x.customer(0, 2),
            x -> x.lostIn(400), x -> x.agingOf(0), BookRental::served, BookRental::textFault, BookRental::digest};
        for (int i = 0; i < calls.length; i++) {
            Edge.Call call = calls[i];
            Edge.told("telling call " + i, Edge::busy, call, call.on(Edge.busy()));
            Edge.told("telling call " + i + ", nothing to undo", () -> undone(), call, call.on(undone()));
        }
        BookRental x = Edge.busy();
        x.type('a');
        x.clearText();
        Edge.is("type() and clearText() are not recorded", x.undo(), 2);
    }

    private static BookRental undone() {
        BookRental x = Edge.busy();
        x.undo();
        x.undo();
        x.undo();
        return x;
    }

    private static long hash(long... numbers) {
        long h = 17;
        for (long number : numbers) {
            h = 31 * h + number;
        }
        return h;
    }

    private static void emptyDigest() {
        Edge.sentence(32, "It begins with h = 17");
        long[] numbers = new long[14 + 8 + 24];
        numbers[10] = 100;
        numbers[11] = 25;
        numbers[12] = 30;
        numbers[13] = 20;
        numbers[21] = 100000000;
        Edge.told("without titles, courses and copies", Edge::empty, BookRental::digest, hash(numbers));
    }

    private static void digestOfAll() {
        Edge.sentence(32, "count() of 0 to 13; for each title its properties 0 to 6; for each course its properties 0 to 3; for"
            + " each copy its properties 0 to 10; book() of 0 to 7; for each customer the numbers 0 to 2");
        Edge.told("one title, course and copy", () -> Edge.late(3), BookRental::digest, hash(
            1, 2, 1, 103, 1, 1, 0, 0, 0, 2, 100, 25, 30, 20,
            1000, 5, 9, 2, 7, 2, 1,
            0, 1, 9, 1,
            0, 5, 0, 1, 3, 100, 1000, 300, 750, 1, 3,
            0, 5, 0, 0, -1, -1, 1000, 300, 750, 1, 0,
            300, 0, 0, 0, 0, 2000, 0, 99998300,
            0, 0, 0, 0, 0, 0, 0, 0, 0, 1, 1, 300, 0, 0, 0, 0, 0, 0, 0, 0, 0, 0, 0, 0));
        Edge.told("a busy one", Edge::busy, BookRental::digest, hashOf(Edge.busy()));
        Edge.told("six titles and courses, sixty copies", Edge::full, BookRental::digest, hashOf(Edge.full()));
        Edge.told("titles alone", () -> Edge.onDay(100000), BookRental::digest, hashOf(Edge.onDay(100000)));
    }

    private static long hashOf(BookRental x) {
        long h = 17;
        for (int what = 0; what <= 13; what++) {
            h = 31 * h + x.count(what);
        }
        for (int i = 0; i < 7 * x.count(0); i++) {
            h = 31 * h + x.title(i / 7, i % 7);
        }
        for (int i = 0; i < 4 * x.count(2); i++) {
            h = 31 * h + x.course(i / 4, i % 4);
        }
        for (int i = 0; i < 11 * x.count(1); i++) {
            h = 31 * h + x.copy(i / 11, i % 11);
        }
        for (int what = 0; what <= 7; what++) {
            h = 31 * h + x.book(what);
        }
        for (int i = 0; i < 24; i++) {
            h = 31 * h + x.customer(i / 3, i % 3);
        }
        return h;
    }

    private static void digestOverflows() {
        Edge.sentence(32, "(long arithmetic, with overflow)");
        BigInteger exact = BigInteger.valueOf(17);
        BookRental x = new BookRental();
        int[] numbers = new int[14 + 8 + 24];
        for (int i = 0; i < 14; i++) {
            numbers[i] = x.count(i);
        }
        for (int i = 0; i < 8; i++) {
            numbers[14 + i] = x.book(i);
        }
        for (int number : numbers) {
            exact = exact.multiply(BigInteger.valueOf(31)).add(BigInteger.valueOf(number));
        }
        Edge.is("it does not fit into a long", exact.bitLength() > 64 ? 1 : 0, 1);
        Edge.is("its last 64 bits", x.digest(), exact.longValue());
    }

    private static void digestTellsStatesApart() {
        Edge.sentence(32, "Returns a hash of the state");
        BookRental x = Edge.busy();
        long before = x.digest();
        x.type('a');
        Edge.is("the text is no part of it", x.digest(), before);
        x.clearText();
        Edge.is("nor is an empty one", x.digest(), before);
        x.setPrice(0, 1000);
        Edge.is("nor is the history", x.digest(), before);
        x.setPrice(0, 1001);
        Edge.is("the price is", x.digest() == before ? 1 : 0, 0);
    }
}
