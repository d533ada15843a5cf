/** Promise 32 (digest): it is made from the answers of the other methods; and all of them in a full rental. */
public final class DigestTest {
    public static void main(String[] args) {
        BookRental x = new BookRental();
        same("a new object", x);
        x.addTitle(1000, 2);
        x.addTitle(20000, 30);
        same("titles", x);
        x.addCourse(0, 1, 20);
        x.addCourse(1, 30, 0);
        same("courses", x);
        x.buy(0, 5);
        x.buy(1, 2);
        x.buyBack(0, 1, 3);
        same("copies", x);
        x.rent(4, 0);
        x.rent(5, 0);
        x.sell(4);
        x.shelf(0, 1);
        x.pass(120);
        same("late copies", x);
        x.giveBack(7, 1);
        x.pass(11);
        same("lost copies", x);
        x.set(1, 7);
        same("settings", x);
        full();
        long before = x.digest();
        x.type('a');
        Due.isTrue("the text does not matter", x.digest() == before);
        Due.is("a new one is known", new BookRental().digest(), byHand());
        Due.end();
    }

    /** Where there is room for no more, every call still answers. */
    private static void full() {
        BookRental x = new BookRental();
        for (int i = 0; i < 6; i++) {
            x.addTitle(1000, 1);
            x.addCourse(i, 1, 4);
            x.buy(i, 10);
        }
        same("a full rental", x);
        Due.is("served()", x.served(), 24);
        Due.is("agingOf(5)", x.agingOf(5), 2000);
        Due.is("next(5)", x.next(5), 50);
        for (int i = 0; i < 8; i++) {
            Due.is("rent(" + i + ", 5)", x.rent(i, 5), 50 + i);
        }
        Due.is("sell(58)", x.sell(58), 750);
        Due.is("offer(5, 1, 0)", x.offer(5, 1, 0), 200);
        Due.is("shelf(5, 0)", x.shelf(5, 0), 1);
        Due.is("the last one is missing", x.copy(59, 3), 4);
        Due.is("shelf(5, 1)", x.shelf(5, 1), 0);
        Due.is("lostIn(131)", x.lostIn(131), 8);
        Due.is("pass(131)", x.pass(131), 8);
        Due.is("the last one again", x.rent(7, 5), 59);
        Due.is("giveBack(59, 4)", x.giveBack(59, 4), 600);
        Due.is("buyBack when full", x.buyBack(0, 1, 0), Due.FULL);
        same("a full rental in the end", x);
        Due.is("undo()", x.undo(), 4);
        same("a full rental after undo", x);
    }

    private static void same(String when, BookRental x) {
        long h = 17;
        for (int what = 0; what <= 13; what++) {
            h = 31 * h + x.count(what);
        }
        for (int title = 0; title < x.count(0); title++) {
            for (int what = 0; what <= 6; what++) {
                h = 31 * h + x.title(title, what);
            }
        }
        for (int course = 0; course < x.count(2); course++) {
            for (int what = 0; what <= 3; what++) {
                h = 31 * h + x.course(course, what);
            }
        }
        for (int copy = 0; copy < x.count(1); copy++) {
            for (int what = 0; what <= 10; what++) {
                h = 31 * h + x.copy(copy, what);
            }
        }
        for (int what = 0; what <= 7; what++) {
            h = 31 * h + x.book(what);
        }
        for (int customer = 0; customer < 8; customer++) {
            for (int what = 0; what <= 2; what++) {
                h = 31 * h + x.customer(customer, what);
            }
        }
        Due.is(when + ": digest()", x.digest(), h);
    }

    /** Of a new object only the settings and book(7) are not 0. */
    private static long byHand() {
        long[] numbers = new long[14 + 8 + 24];
        numbers[10] = 100;
        numbers[11] = 25;
        numbers[12] = 30;
        numbers[13] = 20;
        numbers[21] = 100000000;
        long h = 17;
        for (long number : numbers) {
            h = 31 * h + number;
        }
        return h;
    }
}
