/** Promises 1 (A new object), 2 (addTitle), 3 (setPrice), 4 (newEdition), 8 (count), 9 (title), 12 (book). */
public final class NewAndTitlesTest {
    public static void main(String[] args) {
        newObject();
        addTitle();
        setPrice();
        newEdition();
        count();
        title();
        book();
        Due.end();
    }

    private static void newObject() {
        BookRental x = new BookRental();
        int[] counts = {0, 0, 0, 0, 0, 0, 0, 0, 0, 0, 100, 25, 30, 20};
        for (int what = 0; what < counts.length; what++) {
            Due.is("new count(" + what + ")", x.count(what), counts[what]);
        }
        for (int what = 0; what < 7; what++) {
            Due.is("new book(" + what + ")", x.book(what), 0);
        }
        Due.is("new book(7)", x.book(7), 100000000);
        for (int customer = 0; customer < 8; customer++) {
            for (int what = 0; what < 3; what++) {
                Due.is("new customer(" + customer + ", " + what + ")", x.customer(customer, what), 0);
            }
        }
        Due.is("new title(0, 0)", x.title(0, 0), Due.INDEX);
        Due.is("new course(0, 0)", x.course(0, 0), Due.INDEX);
        Due.is("new copy(0, 0)", x.copy(0, 0), Due.INDEX);
        Due.is("new served()", x.served(), 0);
        Due.is("new undo()", x.undo(), Due.STATE);
        Due.is("new textFault()", x.textFault(), 0);
        Due.is("new orders()", x.orders(), Due.STATE);
        Due.is("new clearText()", x.clearText(), 0);
    }

    private static void addTitle() {
        BookRental x = new BookRental();
        Due.is("addTitle(99, 1)", x.addTitle(99, 1), Due.VALUE);
        Due.is("addTitle(20001, 1)", x.addTitle(20001, 1), Due.VALUE);
        Due.is("addTitle(100, 0)", x.addTitle(100, 0), Due.VALUE);
        Due.is("addTitle(100, 31)", x.addTitle(100, 31), Due.VALUE);
        Due.is("addTitle(min, min)", x.addTitle(Integer.MIN_VALUE, Integer.MIN_VALUE), Due.VALUE);
        Due.is("addTitle(max, max)", x.addTitle(Integer.MAX_VALUE, Integer.MAX_VALUE), Due.VALUE);
        Due.is("titles after errors", x.count(0), 0);
        Due.is("nothing recorded", x.undo(), Due.STATE);
        Due.is("addTitle(100, 1)", x.addTitle(100, 1), 0);
        Due.is("addTitle(20000, 30)", x.addTitle(20000, 30), 1);
        for (int title = 2; title < 6; title++) {
            Due.is("addTitle " + title, x.addTitle(1000 + title, title), title);
        }
        Due.is("seventh addTitle", x.addTitle(1000, 1), Due.FULL);
        Due.is("BAD_VALUE ahead of FULL", x.addTitle(99, 1), Due.VALUE);
        Due.is("titles", x.count(0), 6);
        Due.is("price of 1", x.title(1, 0), 20000);
        Due.is("edition of 1", x.title(1, 1), 30);
        Due.is("price of 5", x.title(5, 0), 1005);
        Due.is("edition of 5", x.title(5, 1), 5);
        Due.is("undo of addTitle", x.undo(), 4);
        Due.is("titles then", x.count(0), 5);
        Due.is("title(5, 0) then", x.title(5, 0), Due.INDEX);
        Due.is("addTitle again", x.addTitle(500, 9), 5);
        Due.is("its price", x.title(5, 0), 500);
    }

    private static void setPrice() {
        BookRental x = new BookRental();
        Due.is("setPrice without titles", x.setPrice(0, 500), Due.INDEX);
        x.addTitle(1000, 1);
        x.addTitle(2000, 1);
        Due.is("setPrice(-1, 500)", x.setPrice(-1, 500), Due.INDEX);
        Due.is("setPrice(2, 500)", x.setPrice(2, 500), Due.INDEX);
        Due.is("BAD_INDEX ahead of BAD_VALUE", x.setPrice(2, 99), Due.INDEX);
        Due.is("setPrice(1, 99)", x.setPrice(1, 99), Due.VALUE);
        Due.is("setPrice(1, 20001)", x.setPrice(1, 20001), Due.VALUE);
        Due.is("price after errors", x.title(1, 0), 2000);
        Due.is("setPrice(1, 100)", x.setPrice(1, 100), 2000);
        Due.is("setPrice(1, 20000)", x.setPrice(1, 20000), 100);
        Due.is("price then", x.title(1, 0), 20000);
        Due.is("the other price", x.title(0, 0), 1000);
        Due.is("undo of setPrice", x.undo(), 3);
        Due.is("price before", x.title(1, 0), 100);
        x.buy(0, 1);
        x.setPrice(0, 3000);
        Due.is("worth follows the price", x.copy(0, 6), 3000);
        Due.is("what was paid does not", x.book(5), 1000);
        Due.is("the same price once more", x.setPrice(0, 3000), 3000);
        Due.is("is recorded", x.undo(), 4);
    }

    private static void newEdition() {
        BookRental x = new BookRental();
        Due.is("newEdition without titles", x.newEdition(0), Due.INDEX);
        x.addTitle(1000, 28);
        Due.is("newEdition(-1)", x.newEdition(-1), Due.INDEX);
        Due.is("newEdition(1)", x.newEdition(1), Due.INDEX);
        Due.is("newEdition to 29", x.newEdition(0), 29);
        Due.is("newEdition to 30", x.newEdition(0), 30);
        Due.is("newEdition at 30", x.newEdition(0), Due.FULL);
        Due.is("edition", x.title(0, 1), 30);
        Due.is("undo of newEdition", x.undo(), 2);
        Due.is("edition before", x.title(0, 1), 29);
        x.buy(0, 1);
        Due.is("a copy bought now", x.copy(0, 1), 29);
        x.newEdition(0);
        Due.is("keeps its edition", x.copy(0, 1), 29);
        Due.is("and falls behind", x.copy(0, 6), 800);
    }

    private static void count() {
        BookRental x = new BookRental();
        x.addTitle(1000, 1);
        x.addTitle(1000, 1);
        x.addCourse(0, 1, 1);
        x.addCourse(0, 1, 1);
        x.addCourse(0, 1, 1);
        x.buy(0, 9);
        x.buy(1, 6);
        x.rent(0, 0);
        x.rent(1, 0);
        x.rent(2, 0);
        x.rent(3, 0);
        x.giveBack(0, 4);
        x.giveBack(1, 4);
        x.rent(0, 0);
        x.giveBack(0, 1);
        x.pass(7);
        x.sell(8);
        x.shelf(1, 2);
        // of 15 copies: 0 and 1 back with grade 4, 0 rented again and ruined; 2 and 3 rented; 8 sold; 11 to 14 missing
        int[] counts = {2, 15, 3, 7, 7, 2, 1, 1, 4, 13, 100, 25, 30, 20};
        for (int what = 0; what < counts.length; what++) {
            Due.is("count(" + what + ")", x.count(what), counts[what]);
        }
        Due.is("count(-1)", x.count(-1), Due.VALUE);
        Due.is("count(14)", x.count(14), Due.VALUE);
        Due.is("count(min)", x.count(Integer.MIN_VALUE), Due.VALUE);
        Due.is("count(max)", x.count(Integer.MAX_VALUE), Due.VALUE);
    }

    private static void title() {
        BookRental x = new BookRental();
        Due.is("title(0, 0) without titles", x.title(0, 0), Due.INDEX);
        x.addTitle(1000, 5);
        x.addTitle(4000, 7);
        Due.is("BAD_INDEX ahead of BAD_VALUE", x.title(2, 7), Due.INDEX);
        Due.is("title(-1, 0)", x.title(-1, 0), Due.INDEX);
        Due.is("title(0, 7)", x.title(0, 7), Due.VALUE);
        Due.is("title(0, -1)", x.title(0, -1), Due.VALUE);
        x.buy(0, 8);
        Due.is("supply without a course", x.title(0, 3), 0);
        x.addCourse(0, 6, 5);
        x.addCourse(1, 1, 50);
        x.addCourse(0, 5, 6);
        Due.is("demand", x.title(0, 2), 11);
        Due.is("supply", x.title(0, 3), 8);
        Due.is("lacking", x.title(0, 4), 3);
        x.setCourse(0, 6, 2);
        Due.is("demand as the supply", x.title(0, 2), 8);
        Due.is("nothing lacks", x.title(0, 4), 0);
        x.setCourse(0, 6, 0);
        Due.is("less demand than supply", x.title(0, 4), 0);
        x.rent(0, 2);
        Due.is("a rented copy counts for the supply", x.title(0, 3), 8);
        x.sell(1);
        Due.is("a sold one does not", x.title(0, 3), 7);
        x.shelf(0, 5);
        Due.is("nor a missing one", x.title(0, 3), 6);
        x.giveBack(0, 4);
        x.rent(0, 2);
        x.giveBack(0, 1);
        Due.is("nor a lost one", x.title(0, 3), 5);
        Due.is("copies in all states", x.title(0, 5), 8);
        Due.is("copies in stock", x.title(0, 6), 5);
        x.setCourse(2, 6, 6);
        Due.is("nor one that no course takes", x.title(0, 3), 0);
        Due.is("lacking then", x.title(0, 4), 6);
        Due.is("price", x.title(1, 0), 4000);
        Due.is("edition", x.title(1, 1), 7);
        Due.is("copies of the other", x.title(1, 5), 0);
        Due.is("stock of the other", x.title(1, 6), 0);
        Due.is("demand of the other", x.title(1, 2), 50);
        Due.is("lacking of the other", x.title(1, 4), 50);
    }

    private static void book() {
        BookRental x = new BookRental();
        x.addTitle(1000, 1);
        x.addCourse(0, 1, 200);
        x.buy(0, 3);
        Due.is("bought new", x.book(5), 3000);
        x.buyBack(0, 1, 1);
        Due.is("bought back: 800 * 40 / 100", x.book(6), 320);
        x.rent(0, 0);
        Due.is("rents: 800 * 30 / 100", x.book(0), 240);
        x.pass(110);
        x.giveBack(3, 3);
        Due.is("late fees: 10 * 25", x.book(1), 250);
        Due.is("damages: from grade 2 to grade 4", x.book(2), 400);
        x.rent(0, 0);
        Due.is("rents: 60 more", x.book(0), 300);
        x.giveBack(3, 1);
        Due.is("lost: the ruined one", x.book(3), 200);
        x.rent(1, 0);
        x.pass(131);
        Due.is("lost: the late one too", x.book(3), 1200);
        Due.is("no late fee for it", x.book(1), 250);
        x.sell(1);
        Due.is("sold", x.book(4), 750);
        Due.is("rents at last", x.book(0), 600);
        Due.is("balance", x.book(7), 100000000 + 600 + 250 + 400 + 1200 + 750 - 3000 - 320);
        Due.is("book(-1)", x.book(-1), Due.VALUE);
        Due.is("book(8)", x.book(8), Due.VALUE);
    }
}
