/** Promise 27 (undo), and what is recorded by each of the methods that are said to be. */
public final class HistoryTest {
    public static void main(String[] args) {
        empty();
        mostFive();
        ring();
        errorsDropNothing();
        wholeState();
        renterAndDay();
        errorsAreNotRecorded();
        readingIsNotRecorded();
        textIsNotRestored();
        Due.end();
    }

    private static void empty() {
        BookRental x = new BookRental();
        Due.is("undo of nothing", x.undo(), Due.STATE);
        x.addTitle(1000, 1);
        Due.is("undo of one", x.undo(), 0);
        Due.is("undo of nothing again", x.undo(), Due.STATE);
        Due.is("no titles", x.count(0), 0);
    }

    private static void mostFive() {
        BookRental x = new BookRental();
        for (int day = 1; day <= 7; day++) {
            x.pass(1);
        }
        for (int left = 4; left >= 0; left--) {
            Due.is("undo to " + left, x.undo(), left);
            Due.is("the day then", x.count(3), left + 2);
        }
        Due.is("the oldest two were dropped", x.undo(), Due.STATE);
        Due.is("the day at last", x.count(3), 2);
    }

    private static void ring() {
        BookRental x = new BookRental();
        for (int i = 0; i < 40; i++) {
            x.pass(1);
            x.pass(2);
            Due.is("undo " + i, x.undo(), Math.min(i + 1, 4));
            Due.is("day " + i, x.count(3), i + 1);
        }
        x.undo();
        Due.is("a step more", x.count(3), 39);
        x.undo();
        Due.is("two steps more", x.count(3), 38);
        Due.is("new after undo", x.pass(100), 0);
        Due.is("and back", x.undo(), 2);
        Due.is("to the same day", x.count(3), 38);
    }

    private static void errorsDropNothing() {
        BookRental x = new BookRental();
        for (int day = 1; day <= 5; day++) {
            x.pass(1);
        }
        for (int i = 0; i < 9; i++) {
            x.pass(0);
            x.sell(0);
        }
        for (int day = 4; day >= 0; day--) {
            Due.is("undo to day " + day, x.undo(), day);
            Due.is("it is day " + day, x.count(3), day);
        }
    }

    private static void renterAndDay() {
        BookRental x = new BookRental();
        x.addTitle(1000, 5);
        x.addCourse(0, 4, 30);
        x.buy(0, 1);
        x.rent(3, 0);
        x.pass(2);
        x.giveBack(0, 0);
        x.rent(4, 0);
        Due.is("the new renter", x.copy(0, 4), 4);
        Due.is("the new day", x.copy(0, 5), 102);
        x.undo();
        Due.is("nobody", x.copy(0, 4), Due.NONE);
        x.undo();
        Due.is("the old renter", x.copy(0, 4), 3);
        Due.is("the old day", x.copy(0, 5), 100);
        Due.is("charged to the old one", x.customer(3, 2), 300);
        Due.is("not to the new one", x.customer(4, 2), 0);
    }

    private static void wholeState() {
        BookRental x = new BookRental();
        x.addTitle(1000, 5);
        x.addTitle(2000, 6);
        x.addCourse(0, 4, 30);
        x.addCourse(1, 5, 3);
        x.buy(0, 5);
        x.buy(1, 5);
        x.rent(0, 0);
        x.rent(1, 1);
        x.pass(101);
        Due.type(x, "sell 3;buy 0 1");
        for (int method = 0; method < 15; method++) {
            long before = x.digest();
            int left = x.undo();
            Due.isTrue("there is one before " + method, left >= 0);
            x.pass(1);
            long then = x.digest();
            Due.isTrue("method " + method + " returns no error", call(x, method) >= 0);
            Due.isTrue("method " + method + " changes something", x.digest() != then);
            Due.is("method " + method + " is recorded", x.undo(), Math.min(left + 1, 4));
            Due.is("method " + method + " is undone", x.digest(), then);
            x.undo();
            x.pass(101);
            Due.isTrue("as before " + method, x.digest() == before);
        }
    }

    private static int call(BookRental x, int method) {
        switch (method) {
            case 0: return x.addTitle(3000, 7);
            case 1: return x.setPrice(1, 2001);
            case 2: return x.newEdition(0);
            case 3: return x.addCourse(1, 2, 3);
            case 4: return x.setCourse(1, 6, 4);
            case 5: return x.set(0, 77);
            case 6: return x.buy(1, 2);
            case 7: return x.buyBack(1, 5, 2);
            case 8: return x.sell(4);
            case 9: return x.rent(2, 1);
            case 10: return x.giveBack(0, 3);
            case 11: return x.pass(400);
            case 12: return x.shelf(1, 1);
            case 13: return x.set(3, 1);
            default: return x.orders();
        }
    }

    private static void errorsAreNotRecorded() {
        BookRental x = new BookRental();
        x.addTitle(1000, 30);
        x.addCourse(0, 1, 1);
        x.buy(0, 1);
        x.sell(0);
        long before = x.digest();
        int[] errors = {
            x.addTitle(1, 1), x.setPrice(0, 1), x.newEdition(0), x.addCourse(1, 1, 1), x.setCourse(0, 0, 1),
            x.set(0, 1), x.buy(0, 21), x.buyBack(0, 1, 9), x.sell(0), x.rent(0, 0), x.giveBack(0, 0), x.pass(0),
            x.shelf(0, 1), x.orders()};
        for (int i = 0; i < errors.length; i++) {
            Due.isTrue("error " + i, errors[i] < 0);
        }
        Due.isTrue("nothing is changed", x.digest() == before);
        Due.is("nothing is recorded", x.undo(), 3);
        Due.is("the sale is undone", x.copy(0, 3), 0);
    }

    private static void readingIsNotRecorded() {
        BookRental x = new BookRental();
        x.addTitle(1000, 3);
        x.addCourse(0, 1, 1);
        x.buy(0, 1);
        x.rent(0, 0);
        x.count(0);
        x.title(0, 0);
        x.course(0, 0);
        x.copy(0, 0);
        x.book(0);
        x.offer(0, 3, 0);
        x.next(0);
        x.charge(0, 0, 2);
        x.customer(0, 0);
        x.lostIn(400);
        x.agingOf(0);
        x.served();
        x.type('a');
        x.textFault();
        x.clearText();
        x.digest();
        Due.is("undo of rent", x.undo(), 3);
        Due.is("it is", x.copy(0, 3), 0);
    }

    private static void textIsNotRestored() {
        BookRental x = new BookRental();
        x.pass(1);
        Due.type(x, "wait");
        Due.is("undo of pass", x.undo(), 0);
        Due.is("the text stays", x.clearText(), 4);
        x.pass(1);
        Due.is("and is not brought back", x.undo(), 0);
        Due.is("it is empty", x.clearText(), 0);
    }
}
