/** The edges of promises 1 (A new object), 2 (addTitle), 3 (setPrice), 4 (newEdition), 8 (count), 9 (title), 12 (book). */
public final class TitleEdgesTest {
    public static void main(String[] args) {
        newObject();
        objectsShareNothing();
        addTitleRanges();
        addTitleFull();
        setPriceIndex();
        setPriceRange();
        newEditionIndex();
        newEditionFull();
        countRange();
        countStates();
        titleIndex();
        titleRange();
        titleLacking();
        titleCopies();
        demand();
        supply();
        bookRange();
        bookBalance();
        Due.end();
    }

    private static void newObject() {
        Edge.sentence(1, "Creates a rental without titles, copies and courses");
        BookRental x = new BookRental();
        for (int what = 0; what < 3; what++) {
            Edge.is("count(" + what + ")", x.count(what), 0);
        }
        Edge.told("title(0, 0)", Edge::empty, y -> y.title(0, 0), Due.INDEX);
        Edge.told("copy(0, 0)", Edge::empty, y -> y.copy(0, 0), Due.INDEX);
        Edge.told("course(0, 0)", Edge::empty, y -> y.course(0, 0), Due.INDEX);
        Edge.sentence(1, "on the day 0");
        Edge.is("count(3)", x.count(3), 0);
        Edge.sentence(1, "with the settings that are described");
        int[] first = {100, 25, 30, 20};
        for (int setting = 0; setting < 4; setting++) {
            Edge.is("count(" + (10 + setting) + ")", x.count(10 + setting), first[setting]);
        }
        Edge.sentence(1, "and with an empty text");
        Edge.told("textFault()", Edge::empty, BookRental::textFault, 0);
        Edge.told("orders()", Edge::empty, BookRental::orders, Due.STATE);
        Edge.told("clearText()", Edge::empty, BookRental::clearText, 0);
        Edge.is("type(32)", x.type(32), 1);
        Edge.is("nothing to undo", x.undo(), Due.STATE);
        for (int customer = 0; customer < 8; customer++) {
            for (int what = 0; what < 3; what++) {
                Edge.is("customer(" + customer + ", " + what + ")", x.customer(customer, what), 0);
            }
        }
        Edge.is("served()", x.served(), 0);
        Edge.is("lostIn(400)", x.lostIn(400), 0);
    }

    private static void objectsShareNothing() {
        Edge.sentence(1, "`BookRental()`");
        BookRental x = new BookRental();
        long before = x.digest();
        BookRental y = Edge.busy();
        Edge.is("another one's calls leave the state", x.digest(), before);
        Edge.is("and the history", x.undo(), Due.STATE);
        Edge.is("and the text", x.clearText(), 0);
        Edge.is("one made behind it is new", new BookRental().digest(), before);
        Edge.is("the other keeps its history", y.undo(), 2);
    }

    private static void addTitleRanges() {
        Edge.sentence(2, "`price`: 100 to 20000");
        Edge.range("price", () -> Edge.titles(2), (x, v) -> x.addTitle(v, 1), 100, 20000, Due.VALUE);
        Edge.sentence(2, "`edition`: its current edition, 1 to 30");
        Edge.range("edition", () -> Edge.titles(2), (x, v) -> x.addTitle(100, v), 1, 30, Due.VALUE);
        Edge.sentence(2, "BAD_VALUE if an argument is out of range");
        Edge.told("both", Edge::empty, x -> x.addTitle(99, 31), Due.VALUE);
        Edge.sentence(0, "each with a price, 100 to 20000, and a current edition, 1 to 30");
        BookRental x = new BookRental();
        x.addTitle(100, 30);
        x.addTitle(20000, 1);
        Edge.is("the lowest price", x.title(0, 0), 100);
        Edge.is("the highest edition", x.title(0, 1), 30);
        Edge.is("the highest price", x.title(1, 0), 20000);
        Edge.is("the lowest edition", x.title(1, 1), 1);
    }

    private static void addTitleFull() {
        Edge.sentence(0, "There are at most 6 titles, numbered from 0");
        for (int titles = 0; titles < 6; titles++) {
            int number = titles;
            Edge.recorded("title " + number, () -> Edge.titles(number), x -> x.addTitle(100, 1), number);
        }
        Edge.sentence(2, "FULL if there are 6 titles");
        Edge.told("a seventh title", () -> Edge.titles(6), x -> x.addTitle(100, 1), Due.FULL);
        Edge.sentence(0, "If several apply to a call, the first one in this order is returned");
        Edge.told("a bad price of a seventh title", () -> Edge.titles(6), x -> x.addTitle(99, 1), Due.VALUE);
        Edge.told("a bad edition of a seventh title", () -> Edge.titles(6), x -> x.addTitle(100, 31), Due.VALUE);
        Edge.sentence(2, "Returns its number");
        BookRental x = Edge.titles(5);
        x.addTitle(100, 30);
        x.undo();
        Edge.is("the number of an undone one is taken again", x.addTitle(200, 29), 5);
        Edge.is("with its own price", x.title(5, 0), 200);
        Edge.is("with its own edition", x.title(5, 1), 29);
    }

    private static void setPriceIndex() {
        Edge.sentence(3, "BAD_INDEX if there is no such title");
        Edge.told("no title at all", Edge::empty, x -> x.setPrice(0, 500), Due.INDEX);
        Edge.range("title", () -> Edge.titles(3), (x, v) -> x.setPrice(v, 500), 0, 2, Due.INDEX);
        Edge.range("title of six", () -> Edge.titles(6), (x, v) -> x.setPrice(v, 500), 0, 5, Due.INDEX);
        Edge.sentence(0, "If several apply to a call, the first one in this order is returned");
        Edge.told("no such title, bad price", Edge::busy, x -> x.setPrice(2, 99), Due.INDEX);
    }

    private static void setPriceRange() {
        Edge.sentence(3, "`price`: 100 to 20000");
        Edge.range("price", Edge::busy, (x, v) -> x.setPrice(1, v), 100, 20000, Due.VALUE);
        Edge.sentence(3, "Returns the previous price");
        Edge.recorded("the lowest", Edge::busy, x -> x.setPrice(1, 100), 2000);
        Edge.recorded("the highest", Edge::busy, x -> x.setPrice(1, 20000), 2000);
        BookRental x = Edge.busy();
        x.setPrice(1, 100);
        Edge.is("after the lowest", x.setPrice(1, 20000), 100);
        Edge.is("after the highest", x.setPrice(1, 20000), 20000);
        Edge.is("the other title's", x.title(0, 0), 1000);
        Edge.sentence(0, "before each call that returns no error, even if it changes nothing");
        Edge.recorded("the same price", Edge::busy, y -> y.setPrice(1, 2000), 2000);
    }

    private static void newEditionIndex() {
        Edge.sentence(4, "BAD_INDEX if there is no such title");
        Edge.told("no title at all", Edge::empty, x -> x.newEdition(0), Due.INDEX);
        Edge.range("title", () -> Edge.titles(3), (x, v) -> x.newEdition(v), 0, 2, Due.INDEX);
    }

    private static BookRental atEdition(int edition) {
        BookRental x = new BookRental();
        x.addTitle(1000, edition);
        return x;
    }

    private static void newEditionFull() {
        Edge.sentence(4, "Returns the current edition then");
        Edge.recorded("from the first one", () -> atEdition(1), x -> x.newEdition(0), 2);
        Edge.recorded("to the last one", () -> atEdition(29), x -> x.newEdition(0), 30);
        Edge.sentence(4, "FULL if it is 30");
        Edge.told("at the last one", () -> atEdition(30), x -> x.newEdition(0), Due.FULL);
        BookRental x = atEdition(1);
        for (int edition = 2; edition <= 30; edition++) {
            Edge.is("step by step", x.newEdition(0), edition);
        }
        Edge.is("and no further", x.newEdition(0), Due.FULL);
    }

    private static void countRange() {
        Edge.sentence(8, "BAD_VALUE if what is out of range");
        Edge.range("what", Edge::busy, (x, v) -> x.count(v), 0, 13, Due.VALUE);
        Edge.range("what of a new one", Edge::empty, (x, v) -> x.count(v), 0, 13, Due.VALUE);
    }

    private static void countStates() {
        Edge.sentence(8, "0 titles, 1 copies, 2 courses, 3 the day, 4 copies in stock, 5 rented, 6 sold, 7 lost,"
            + " 8 missing, 9 owned; 10 to 13 the settings");
        int[] counts = {2, 8, 2, 0, 3, 2, 1, 1, 1, 6, 100, 25, 30, 20};
        for (int what = 0; what < counts.length; what++) {
            int number = what;
            Edge.told("count(" + what + ")", Edge::busy, x -> x.count(number), counts[what]);
        }
        int[] most = {6, 60, 6, 0, 60, 0, 0, 0, 0, 60, 100, 25, 30, 20};
        for (int what = 0; what < most.length; what++) {
            Edge.is("count(" + what + ") when full", Edge.full().count(what), most[what]);
        }
        BookRental x = Edge.busy();
        x.sell(Edge.STOCKED);
        Edge.is("two are sold", x.count(6), 2);
        Edge.is("one is lost", x.count(7), 1);
        Edge.sentence(0, "What is owned is the number of copies in stock, rented or missing");
        Edge.is("one less", x.count(9), 5);
        x.giveBack(Edge.RENTED, 4);
        Edge.is("given back", x.count(9), 5);
        x.shelf(1, 0);
        Edge.is("missing", x.count(9), 5);
        x.pass(131);
        Edge.is("the rented one is lost", x.count(9), 4);
        Edge.is("two are lost", x.count(7), 2);
        Edge.is("three are missing", x.count(8), 3);
        Edge.sentence(0, "Copies are never removed");
        Edge.is("all eight", x.count(1), 8);
    }

    private static void titleIndex() {
        Edge.sentence(9, "BAD_INDEX if there is no such title");
        Edge.told("no title at all", Edge::empty, x -> x.title(0, 0), Due.INDEX);
        Edge.range("title", Edge::busy, (x, v) -> x.title(v, 0), 0, 1, Due.INDEX);
        Edge.range("title of six", Edge::full, (x, v) -> x.title(v, 0), 0, 5, Due.INDEX);
        Edge.sentence(0, "If several apply to a call, the first one in this order is returned");
        Edge.told("no such title, bad property", Edge::busy, x -> x.title(2, 7), Due.INDEX);
    }

    private static void titleRange() {
        Edge.sentence(9, "BAD_VALUE if what is out of range");
        Edge.range("what", Edge::busy, (x, v) -> x.title(1, v), 0, 6, Due.VALUE);
    }

    private static void titleLacking() {
        Edge.sentence(9, "4 by how many copies the supply is less than the demand (0 if it is not)");
        Edge.told("two more wanted", () -> Edge.shop(3, 5), x -> x.title(0, 4), 2);
        Edge.told("one more wanted", () -> Edge.shop(3, 4), x -> x.title(0, 4), 1);
        Edge.told("just enough", () -> Edge.shop(3, 3), x -> x.title(0, 4), 0);
        Edge.told("one too many", () -> Edge.shop(3, 2), x -> x.title(0, 4), 0);
        Edge.told("none wanted, none there", () -> Edge.shop(0, 0), x -> x.title(0, 4), 0);
    }

    private static void titleCopies() {
        Edge.sentence(9, "5 how many copies there are of it, in all states, 6 those in stock");
        Edge.told("all of title 0", Edge::busy, x -> x.title(0, 5), 5);
        Edge.told("all of title 1", Edge::busy, x -> x.title(1, 5), 3);
        Edge.told("in stock of title 0", Edge::busy, x -> x.title(0, 6), 1);
        Edge.told("in stock of title 1", Edge::busy, x -> x.title(1, 6), 2);
        Edge.told("none", () -> Edge.titles(1), x -> x.title(0, 5), 0);
        Edge.told("none in stock", () -> Edge.titles(1), x -> x.title(0, 6), 0);
        Edge.told("all sixty", () -> Edge.shop(60, 1), x -> x.title(0, 5), 60);
        Edge.told("all sixty in stock", () -> Edge.shop(60, 1), x -> x.title(0, 6), 60);
    }

    private static void demand() {
        Edge.sentence(0, "The demand of a title is the sum of the students of its courses");
        Edge.told("no course", () -> atEdition(3), x -> x.title(0, 2), 0);
        BookRental x = Edge.titles(2);
        for (int course = 2; course < 6; course++) {
            x.addCourse(1, 1, 200);
        }
        Edge.is("four courses of 200 and one of 10", x.title(1, 2), 810);
        Edge.is("one course of 10", x.title(0, 2), 10);
        x.setCourse(0, 5, 0);
        Edge.is("one course of nobody", x.title(0, 2), 0);
    }

    private static void supply() {
        Edge.sentence(0, "The supply of a title is the number of its copies in stock or rented that are of use");
        Edge.told("not lost, sold or missing ones", Edge::busy, x -> x.title(0, 3), 2);
        Edge.told("of the other title", Edge::busy, x -> x.title(1, 3), 3);
        Edge.told("no course", () -> atEdition(3), x -> x.title(0, 3), 0);
        Edge.told("no copy", () -> Edge.shop(0, 9), x -> x.title(0, 3), 0);
        BookRental x = Edge.busy();
        x.setCourse(0, 5, 30);
        Edge.is("of just the least edition", x.title(0, 3), 2);
        x.setCourse(0, 6, 30);
        Edge.is("of one below", x.title(0, 3), 0);
        x.addCourse(0, 5, 0);
        Edge.is("of use for a course of nobody", x.title(0, 3), 2);
        x.setCourse(2, 7, 0);
        x.setCourse(1, 1, 3);
        Edge.is("a course of another title does not take it", x.title(0, 3), 0);
    }

    private static void bookRange() {
        Edge.sentence(12, "BAD_VALUE if what is out of range");
        Edge.range("what", Edge::busy, (x, v) -> x.book(v), 0, 7, Due.VALUE);
        for (int what = 0; what < 7; what++) {
            Edge.is("book(" + what + ") of a new one", new BookRental().book(what), 0);
        }
    }

    private static void bookBalance() {
        Edge.sentence(12, "7 the sums 0 to 4 less the sums 5 and 6 (100000000 is added to it)");
        Edge.told("of a new one", Edge::empty, x -> x.book(7), 100000000);
        Edge.told("as much as can be paid for new copies", () -> dear(60), x -> x.book(7), 100000000 - 1200000);
        int[] sums = {300 + 60 + 300 + 600, 0, 600, 200, 750, 11000, 0};
        int balance = 100000000;
        for (int what = 0; what < 7; what++) {
            Edge.is("book(" + what + ")", Edge.busy().book(what), sums[what]);
            balance += what < 5 ? sums[what] : -sums[what];
        }
        Edge.told("of a busy one", Edge::busy, x -> x.book(7), balance);
        BookRental x = Edge.late(4);
        x.buyBack(0, 5, 0);
        x.giveBack(0, 0);
        Edge.is("with a late fee and one bought back", x.book(7), 100000000 + 300 + 100 - 2000 - 400);
        Edge.sentence(0, "3 lost copies (those that are given back ruined, too)");
        BookRental y = Edge.late(0);
        y.giveBack(0, 4);
        y.rent(1, 0);
        Edge.is("ruined", y.giveBack(0, 1), 200);
        y.rent(2, 0);
        y.giveBack(1, 4);
        y.rent(2, 0);
        Edge.is("a second one is ruined", y.giveBack(1, 2), 200);
        Edge.is("both are in the sum", y.book(3), 400);
        y.buy(0, 1);
        y.rent(2, 0);
        y.pass(131);
        Edge.is("and one that is too late", y.book(3), 1400);
    }

    private static BookRental dear(int copies) {
        BookRental x = new BookRental();
        x.addTitle(20000, 1);
        for (int left = copies; left > 0; left -= 20) {
            x.buy(0, 20);
        }
        return x;
    }
}
