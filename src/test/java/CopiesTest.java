/** Promises 11 (copy), 13 (buy), 14 (offer), 15 (buyBack), 16 (sell), and the worth of a copy. */
public final class CopiesTest {
    public static void main(String[] args) {
        copy();
        worth();
        buy();
        offer();
        offerByDemand();
        buyBack();
        sell();
        Due.end();
    }

    private static void copy() {
        BookRental x = new BookRental();
        Due.is("copy(0, 0) without copies", x.copy(0, 0), Due.INDEX);
        x.addTitle(500, 1);
        x.addTitle(1000, 6);
        x.addCourse(1, 6, 9);
        x.buy(1, 2);
        Due.is("copy(-1, 0)", x.copy(-1, 0), Due.INDEX);
        Due.is("BAD_INDEX ahead of BAD_VALUE", x.copy(2, 11), Due.INDEX);
        Due.is("copy(1, -1)", x.copy(1, -1), Due.VALUE);
        Due.is("copy(1, 11)", x.copy(1, 11), Due.VALUE);
        properties("in stock", x, 1, new int[] {1, 6, 0, 0, -1, -1, 1000, 300, 750, 1, 0});
        x.pass(3);
        x.rent(6, 0);
        properties("rented", x, 0, new int[] {1, 6, 0, 1, 6, 103, 1000, 300, 750, 1, 0});
        x.pass(100);
        Due.is("not late on the day on which it is due", x.copy(0, 10), 0);
        x.pass(12);
        x.newEdition(1);
        x.setCourse(0, 7, 9);
        properties("late", x, 0, new int[] {1, 6, 0, 1, 6, 103, 800, 240, 600, 0, 12});
        x.giveBack(0, 2);
        properties("back", x, 0, new int[] {1, 6, 2, 0, -1, -1, 480, 144, 360, 0, 0});
        x.sell(0);
        Due.is("sold", x.copy(0, 3), 2);
        x.shelf(1, 0);
        Due.is("missing", x.copy(1, 3), 4);
        Due.is("nobody has it", x.copy(1, 4), Due.NONE);
        Due.is("never due", x.copy(1, 5), Due.NONE);
    }

    private static void properties(String when, BookRental x, int copy, int[] due) {
        for (int what = 0; what < due.length; what++) {
            Due.is(when + ": copy(" + copy + ", " + what + ")", x.copy(copy, what), due[what]);
        }
    }

    private static void worth() {
        BookRental x = new BookRental();
        x.addTitle(199, 1);
        x.addCourse(0, 1, 200);
        for (int grade = 0; grade < 5; grade++) {
            x.buyBack(0, 1, grade);
        }
        int[] byGrade = {199, 159, 119, 79, 39};
        for (int grade = 0; grade < 5; grade++) {
            Due.is("worth by grade " + grade, x.copy(grade, 6), byGrade[grade]);
        }
        x.set(3, 7);
        x.newEdition(0);
        // what is taken off is rounded down: 13, 11, 8, 5, 2
        int[] oneBehind = {186, 148, 111, 74, 37};
        for (int grade = 0; grade < 5; grade++) {
            Due.is("worth one behind, grade " + grade, x.copy(grade, 6), oneBehind[grade]);
        }
        Due.is("what renting it costs", x.copy(0, 7), 55);
        Due.is("what buying it costs", x.copy(0, 8), 139);
        x.set(3, 50);
        Due.is("half of it", x.copy(0, 6), 100);
        x.newEdition(0);
        Due.is("nothing is left", x.copy(0, 6), 0);
        x.newEdition(0);
        Due.is("nor less than nothing", x.copy(0, 6), 0);
        x.set(3, 0);
        Due.is("no cut", x.copy(0, 6), 199);
        x.set(3, 50);
        x.setPrice(0, 20000);
        x.buyBack(0, 30, 0);
        Due.is("a later edition has its whole worth", x.copy(5, 6), 20000);
        Due.is("and its own edition", x.copy(5, 1), 30);
    }

    private static void buy() {
        BookRental x = new BookRental();
        Due.is("buy without titles", x.buy(0, 1), Due.INDEX);
        x.addTitle(150, 1);
        x.addTitle(250, 9);
        Due.is("buy(-1, 1)", x.buy(-1, 1), Due.INDEX);
        Due.is("BAD_INDEX ahead of BAD_VALUE", x.buy(2, 0), Due.INDEX);
        Due.is("buy(0, 0)", x.buy(0, 0), Due.VALUE);
        Due.is("buy(0, 21)", x.buy(0, 21), Due.VALUE);
        Due.is("buy(0, max)", x.buy(0, Integer.MAX_VALUE), Due.VALUE);
        Due.is("copies after errors", x.count(1), 0);
        Due.is("buy(0, 20)", x.buy(0, 20), 0);
        Due.is("buy(1, 20)", x.buy(1, 20), 20);
        Due.is("title", x.copy(39, 0), 1);
        Due.is("edition", x.copy(39, 1), 9);
        Due.is("grade", x.copy(39, 2), 0);
        Due.is("state", x.copy(39, 3), 0);
        Due.is("paid", x.book(5), 8000);
        Due.is("buy(0, 19)", x.buy(0, 19), 40);
        Due.is("FULL with 61", x.buy(0, 2), Due.FULL);
        Due.is("BAD_VALUE ahead of FULL", x.buy(0, 21), Due.VALUE);
        Due.is("nothing paid", x.book(5), 10850);
        Due.is("the last one", x.buy(0, 1), 59);
        Due.is("copies", x.count(1), 60);
        Due.is("FULL with 60", x.buy(0, 1), Due.FULL);
        Due.is("undo of buy", x.undo(), 4);
        Due.is("copies then", x.count(1), 59);
        Due.is("paid then", x.book(5), 10850);
    }

    private static void offer() {
        BookRental x = new BookRental();
        Due.is("offer without titles", x.offer(0, 1, 0), Due.INDEX);
        x.addTitle(999, 10);
        x.addCourse(0, 8, 1);
        Due.is("offer(-1, 8, 0)", x.offer(-1, 8, 0), Due.INDEX);
        Due.is("BAD_INDEX ahead of BAD_VALUE", x.offer(1, 0, 5), Due.INDEX);
        Due.is("offer(0, 0, 0)", x.offer(0, 0, 0), Due.VALUE);
        Due.is("offer(0, 31, 0)", x.offer(0, 31, 0), Due.VALUE);
        Due.is("offer(0, 8, -1)", x.offer(0, 8, -1), Due.VALUE);
        Due.is("offer(0, 8, 5)", x.offer(0, 8, 5), Due.VALUE);
        Due.is("like new", x.offer(0, 10, 0), 399);
        Due.is("of a later edition", x.offer(0, 30, 0), 399);
        Due.is("worn: 199 * 40 / 100", x.offer(0, 10, 4), 79);
        Due.is("one behind: 800 * 40 / 100", x.offer(0, 9, 0), 320);
        Due.is("two behind: 600 * 40 / 100", x.offer(0, 8, 0), 240);
        Due.is("of no use", x.offer(0, 7, 0), 0);
        Due.is("nothing is recorded by it", x.undo(), 1);
    }

    private static void offerByDemand() {
        BookRental x = new BookRental();
        x.addTitle(999, 10);
        Due.is("without a course", x.offer(0, 10, 0), 0);
        x.addCourse(0, 10, 0);
        Due.is("supply 0, demand 0", x.offer(0, 10, 0), 199);
        x.setCourse(0, 10, 1);
        Due.is("supply 0, demand 1", x.offer(0, 10, 0), 399);
        x.buy(0, 1);
        Due.is("supply 1, demand 1", x.offer(0, 10, 0), 199);
        x.rent(0, 0);
        Due.is("the rented one counts", x.offer(0, 10, 0), 199);
        x.giveBack(0, 0);
        x.shelf(0, 0);
        Due.is("the missing one does not", x.offer(0, 10, 0), 399);
        x.shelf(0, 1);
        x.setCourse(0, 11, 1);
        Due.is("nor one that is of no use", x.offer(0, 11, 0), 399);
        x.setCourse(0, 10, 2);
        Due.is("supply 1, demand 2", x.offer(0, 10, 0), 399);
        x.addTitle(999, 10);
        x.addCourse(1, 10, 5);
        x.buy(1, 9);
        Due.is("the other title does not matter", x.offer(0, 10, 0), 399);
        Due.is("for it itself it does", x.offer(1, 10, 0), 199);
    }

    private static void buyBack() {
        BookRental x = new BookRental();
        Due.is("buyBack without titles", x.buyBack(0, 1, 0), Due.INDEX);
        x.addTitle(1000, 3);
        x.addCourse(0, 2, 1);
        Due.is("buyBack(-1, 2, 0)", x.buyBack(-1, 2, 0), Due.INDEX);
        Due.is("BAD_INDEX ahead of BAD_VALUE", x.buyBack(1, 31, 5), Due.INDEX);
        Due.is("buyBack(0, 0, 0)", x.buyBack(0, 0, 0), Due.VALUE);
        Due.is("buyBack(0, 31, 0)", x.buyBack(0, 31, 0), Due.VALUE);
        Due.is("buyBack(0, 2, -1)", x.buyBack(0, 2, -1), Due.VALUE);
        Due.is("buyBack(0, 2, 5)", x.buyBack(0, 2, 5), Due.VALUE);
        Due.is("of no use", x.buyBack(0, 1, 0), Due.STATE);
        Due.is("buyBack(0, 2, 3)", x.buyBack(0, 2, 3), 0);
        Due.is("the supply is that without it: 320 * 40 / 100", x.book(6), 128);
        Due.is("its title", x.copy(0, 0), 0);
        Due.is("its edition", x.copy(0, 1), 2);
        Due.is("its grade", x.copy(0, 2), 3);
        Due.is("its state", x.copy(0, 3), 0);
        Due.is("a later edition", x.buyBack(0, 30, 0), 1);
        Due.is("for half", x.book(6), 328);
        Due.is("undo of buyBack", x.undo(), 3);
        Due.is("copies then", x.count(1), 1);
        Due.is("paid then", x.book(6), 128);
        x.set(3, 50);
        x.newEdition(0);
        Due.is("without worth", x.buyBack(0, 2, 0), Due.STATE);
        Due.is("with some", x.buyBack(0, 3, 0), 1);
        x.buy(0, 20);
        x.buy(0, 20);
        x.buy(0, 18);
        Due.is("FULL with 60", x.buyBack(0, 3, 0), Due.FULL);
        Due.is("BAD_STATE ahead of FULL", x.buyBack(0, 1, 0), Due.STATE);
        Due.is("BAD_VALUE ahead of FULL", x.buyBack(0, 31, 0), Due.VALUE);
    }

    private static void sell() {
        BookRental x = new BookRental();
        Due.is("sell without copies", x.sell(0), Due.INDEX);
        x.addTitle(999, 3);
        x.addCourse(0, 1, 1);
        x.buy(0, 4);
        Due.is("sell(-1)", x.sell(-1), Due.INDEX);
        Due.is("sell(4)", x.sell(4), Due.INDEX);
        Due.is("sell(0)", x.sell(0), 749);
        Due.is("state", x.copy(0, 3), 2);
        Due.is("sold before", x.sell(0), Due.STATE);
        x.rent(0, 0);
        Due.is("a rented one", x.sell(1), Due.STATE);
        x.shelf(0, 1);
        Due.is("a missing one", x.sell(3), Due.STATE);
        x.giveBack(1, 4);
        x.rent(0, 0);
        x.giveBack(1, 1);
        Due.is("a lost one", x.sell(1), Due.STATE);
        x.newEdition(0);
        Due.is("one that is behind: 800 * 75 / 100", x.sell(2), 600);
        Due.is("sum", x.book(4), 1349);
        Due.is("undo of sell", x.undo(), 4);
        Due.is("in stock again", x.copy(2, 3), 0);
        Due.is("sum then", x.book(4), 749);
        Due.is("nobody is charged", x.customer(0, 2), 299 + 600 + 59 + 199);
    }
}
