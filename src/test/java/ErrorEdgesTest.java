/** The edges of what is said of all error codes: which one is returned, and that nothing is changed or recorded. */
public final class ErrorEdgesTest {
    private static final Edge.Call[] BAD_INDEX = {
        x -> x.setPrice(2, 0), x -> x.newEdition(2), x -> x.addCourse(2, 0, -1), x -> x.setCourse(2, 0, -1), x -> x.set(4, -1),
        x -> x.title(2, 7), x -> x.course(2, 4), x -> x.copy(8, 11), x -> x.buy(2, 0), x -> x.offer(2, 0, 5),
        x -> x.buyBack(2, 0, 5), x -> x.sell(8), x -> x.rent(8, 0), x -> x.rent(0, 2), x -> x.next(2),
        x -> x.giveBack(8, 5), x -> x.charge(8, 5, 3), x -> x.shelf(2, 61), x -> x.customer(8, 3), x -> x.agingOf(2)};

    private static final Edge.Call[] BAD_VALUE = {
        x -> x.addTitle(99, 1), x -> x.addTitle(100, 0), x -> x.setPrice(0, 20001), x -> x.addCourse(0, 31, 1),
        x -> x.addCourse(0, 1, 201), x -> x.setCourse(0, 0, 1), x -> x.setCourse(0, 1, -1), x -> x.set(0, 9),
        x -> x.count(14), x -> x.title(0, 7), x -> x.course(0, 4), x -> x.copy(Edge.SOLD, 11), x -> x.book(8),
        x -> x.buy(0, 21), x -> x.offer(0, 31, 0), x -> x.offer(0, 5, 5), x -> x.buyBack(0, 31, 0), x -> x.buyBack(0, 5, 5),
        x -> x.giveBack(Edge.SOLD, 5), x -> x.charge(Edge.SOLD, 5, 0), x -> x.charge(Edge.SOLD, 0, 3), x -> x.pass(401),
        x -> x.shelf(0, 61), x -> x.customer(0, 3), x -> x.lostIn(401), x -> x.type(256)};

    private static final Edge.Call[] BAD_STATE = {
        x -> x.buyBack(0, 1, 0), x -> x.sell(Edge.RENTED), x -> x.rent(0, 0), x -> x.giveBack(Edge.SOLD, 0),
        x -> x.charge(Edge.SOLD, 0, 0), x -> x.shelf(0, 3)};

    private static final Edge.Call[] FULL = {
        x -> x.addTitle(100, 1), x -> x.addCourse(0, 1, 1), x -> x.buy(0, 1), x -> x.buyBack(0, 1, 0), x -> x.type(32),
        x -> x.newEdition(5), x -> x.agingOf(5), x -> x.pass(400)};

    public static void main(String[] args) {
        codes();
        changesNothing();
        manyErrorsInARow();
        neverNone();
        Due.end();
    }

    private static void codes() {
        Edge.sentence(0, "`NONE = -1, BAD_INDEX = -2, BAD_VALUE = -3, BAD_STATE = -4, FULL = -5`");
        Edge.is("NONE", BookRental.NONE, -1);
        Edge.is("BAD_INDEX", BookRental.BAD_INDEX, -2);
        Edge.is("BAD_VALUE", BookRental.BAD_VALUE, -3);
        Edge.is("BAD_STATE", BookRental.BAD_STATE, -4);
        Edge.is("FULL", BookRental.FULL, -5);
    }

    /** No room for anything, not for an edition of title 5 nor for 400 days either. */
    private static BookRental fullOfAll() {
        BookRental x = new BookRental();
        for (int i = 0; i < 6; i++) {
            x.addTitle(1000, 5 * i + 5);
            x.addCourse(i, 1, 200);
            x.buy(i, 10);
        }
        for (int i = 0; i < 250; i++) {
            x.pass(i == 0 ? 399 : 400);
        }
        Due.type(x, " ".repeat(94) + "sell 3");
        return x;
    }

    private static void changesNothing() {
        Edge.sentence(0, "A call that returns an error changes nothing");
        all("BAD_INDEX", Edge::busy, BAD_INDEX, Due.INDEX);
        all("BAD_VALUE", Edge::busy, BAD_VALUE, Due.VALUE);
        all("BAD_STATE", Edge::busy, BAD_STATE, Due.STATE);
        all("FULL", () -> fullOfAll(), FULL, Due.FULL);
        Edge.sentence(0, "there is no such title, copy, course, customer or setting");
        all("of a new one", Edge::empty, new Edge.Call[] {
            x -> x.setPrice(0, 100), x -> x.newEdition(0), x -> x.addCourse(0, 1, 1), x -> x.setCourse(0, 1, 1),
            x -> x.title(0, 0), x -> x.course(0, 0), x -> x.copy(0, 0), x -> x.buy(0, 1), x -> x.offer(0, 1, 0),
            x -> x.buyBack(0, 1, 0), x -> x.sell(0), x -> x.rent(0, 0), x -> x.next(0), x -> x.giveBack(0, 0),
            x -> x.charge(0, 0, 0), x -> x.shelf(0, 0), x -> x.agingOf(0)}, Due.INDEX);
    }

    private static void all(String code, Edge.Made made, Edge.Call[] calls, int due) {
        for (int i = 0; i < calls.length; i++) {
            Edge.told(code + ", call " + i, made, calls[i], due);
        }
    }

    private static void manyErrorsInARow() {
        Edge.sentence(0, "before each call that returns no error");
        Edge.told("more refused calls than states are kept", Edge::busy, x -> refused(x), 52);
        Edge.told("with a full history", () -> busyForDays(), x -> refused(x), 52);
    }

    private static BookRental busyForDays() {
        BookRental x = Edge.busy();
        for (int i = 0; i < 5; i++) {
            x.pass(1);
        }
        return x;
    }

    private static long refused(BookRental x) {
        long found = 0;
        for (Edge.Call[] calls : new Edge.Call[][] {BAD_INDEX, BAD_VALUE, BAD_STATE}) {
            for (Edge.Call call : calls) {
                found += call.on(x) < Due.NONE ? 1 : 0;
            }
        }
        return found;
    }

    private static void neverNone() {
        Edge.sentence(0, "NONE is returned only if no error applies");
        Edge.told("no such copy: who has it", Edge::busy, x -> x.copy(8, 4), Due.INDEX);
        Edge.told("no such copy: when it is due", Edge::busy, x -> x.copy(8, 5), Due.INDEX);
        Edge.told("no such course: the next copy", Edge::busy, x -> x.next(2), Due.INDEX);
        Edge.told("nobody has it", Edge::busy, x -> x.copy(Edge.SOLD, 4), Due.NONE);
        Edge.told("it is not due", Edge::busy, x -> x.copy(Edge.SOLD, 5), Due.NONE);
        Edge.told("no next copy", () -> Edge.shop(0, 1), x -> x.next(0), Due.NONE);
        Edge.told("no fault", Edge::busy, BookRental::textFault, Due.NONE);
    }
}
