/** Promises 22 (shelf), 24 (lostIn), 25 (agingOf), 26 (served). */
public final class ShelfAndForetellingTest {
    public static void main(String[] args) {
        shelfErrors();
        shelf();
        lostIn();
        agingOf();
        agingByState();
        served();
        servedByState();
        Due.end();
    }

    private static void shelfErrors() {
        BookRental x = new BookRental();
        Due.is("shelf without titles", x.shelf(0, 0), Due.INDEX);
        x.addTitle(1000, 1);
        Due.is("shelf(-1, 0)", x.shelf(-1, 0), Due.INDEX);
        Due.is("BAD_INDEX ahead of BAD_VALUE", x.shelf(1, 61), Due.INDEX);
        Due.is("shelf(0, -1)", x.shelf(0, -1), Due.VALUE);
        Due.is("BAD_VALUE ahead of BAD_STATE", x.shelf(0, 61), Due.VALUE);
        Due.is("shelf(0, 60)", x.shelf(0, 60), Due.STATE);
        Due.is("shelf(0, 1)", x.shelf(0, 1), Due.STATE);
        Due.is("shelf(0, 0)", x.shelf(0, 0), 0);
        Due.is("it is recorded", x.undo(), 1);
        for (int i = 0; i < 3; i++) {
            x.buy(0, 20);
        }
        Due.is("all 60", x.shelf(0, 60), 0);
        Due.is("none of 60", x.shelf(0, 0), 60);
        Due.is("none is in stock", x.title(0, 6), 0);
        Due.is("the first one is missing too", x.copy(0, 3), 4);
        Due.is("one is found", x.shelf(0, 1), 59);
        Due.is("the first one", x.copy(0, 3), 0);
        Due.is("60 again", x.shelf(0, 60), 0);
        Due.is("all are in stock", x.title(0, 6), 60);
    }

    private static void shelf() {
        BookRental x = new BookRental();
        x.addTitle(1000, 1);
        x.addTitle(1000, 1);
        x.addCourse(0, 1, 1);
        x.buy(0, 2);
        x.buy(1, 2);
        x.buy(0, 4);
        x.rent(0, 0);
        x.sell(7);
        Due.is("one too few", x.shelf(0, 3), 1);
        states("highest numbers become missing", x, "10000042");
        Due.is("two more too few", x.shelf(0, 1), 3);
        states("by numbers", x, "10004442");
        Due.is("as many as in stock", x.shelf(0, 1), 3);
        states("nothing is changed", x, "10004442");
        Due.is("one too many", x.shelf(0, 2), 2);
        states("lowest numbers are found", x, "10000442");
        Due.is("too many in all", x.shelf(0, 5), Due.STATE);
        Due.is("all that are missing", x.shelf(0, 4), 0);
        states("all are found", x, "10000002");
        Due.is("none on the shelf", x.shelf(0, 0), 4);
        states("all are missing", x, "14004442");
        Due.is("the other title", x.shelf(1, 1), 1);
        states("with one missing", x, "14044442");
        Due.is("missing", x.count(8), 5);
        Due.is("undo of shelf", x.undo(), 4);
        states("as before", x, "14004442");
        Due.is("none is of stock", x.next(0), Due.NONE);
        Due.is("a missing one cannot be given back", x.giveBack(1, 0), Due.STATE);
        Due.is("one is found", x.shelf(0, 1), 3);
        Due.is("and can be rented", x.rent(1, 0), 1);
    }

    private static void states(String when, BookRental x, String states) {
        for (int copy = 0; copy < states.length(); copy++) {
            Due.is(when + ": copy(" + copy + ", 3)", x.copy(copy, 3), states.charAt(copy) - '0');
        }
    }

    private static void lostIn() {
        BookRental x = new BookRental();
        Due.is("lostIn(0)", x.lostIn(0), Due.VALUE);
        Due.is("lostIn(401)", x.lostIn(401), Due.VALUE);
        Due.is("lostIn(400) without copies", x.lostIn(400), 0);
        x.addTitle(1000, 1);
        x.addCourse(0, 1, 1);
        x.buy(0, 4);
        x.rent(0, 0);
        x.pass(10);
        x.rent(1, 0);
        x.rent(2, 0);
        long before = x.digest();
        Due.is("lostIn(1)", x.lostIn(1), 0);
        Due.is("lostIn(120)", x.lostIn(120), 0);
        Due.is("lostIn(121)", x.lostIn(121), 1);
        Due.is("lostIn(130)", x.lostIn(130), 1);
        Due.is("lostIn(131)", x.lostIn(131), 3);
        Due.is("lostIn(400)", x.lostIn(400), 3);
        x.set(2, 60);
        Due.is("by the setting", x.lostIn(160), 1);
        x.undo();
        Due.isTrue("nothing is changed", x.digest() == before);
        x.giveBack(1, 0);
        Due.is("only rented ones", x.lostIn(131), 2);
        Due.is("as it is then", x.pass(131), 2);
        Due.is("none is lost twice", x.lostIn(400), 0);
    }

    private static void agingOf() {
        BookRental x = new BookRental();
        Due.is("agingOf without titles", x.agingOf(0), Due.INDEX);
        x.addTitle(199, 28);
        Due.is("agingOf(-1)", x.agingOf(-1), Due.INDEX);
        Due.is("agingOf(1)", x.agingOf(1), Due.INDEX);
        Due.is("without copies", x.agingOf(0), 0);
        x.addTitle(5000, 30);
        x.buy(1, 5);
        Due.is("at edition 30", x.agingOf(1), Due.FULL);
        x.addCourse(0, 1, 200);
        x.buy(0, 1);
        Due.is("a new one: 199 * 20 / 100", x.agingOf(0), 39);
        x.buyBack(0, 29, 0);
        Due.is("one of the next edition keeps its worth", x.agingOf(0), 39);
        x.buyBack(0, 24, 0);
        Due.is("80 are taken off already: 41 more", x.agingOf(0), 39 + 199 - 159);
        x.buyBack(0, 28, 3);
        Due.is("79 * 20 / 100 more", x.agingOf(0), 39 + 40 + 15);
        x.set(3, 50);
        Due.is("by the setting: the third one has no worth", x.agingOf(0), 99 + 39);
        x.newEdition(0);
        Due.is("then to 30", x.agingOf(0), (100 - 0) + 99 + (40 - 0));
        x.newEdition(0);
        Due.is("and no more", x.agingOf(0), Due.FULL);
    }

    private static void agingByState() {
        BookRental x = new BookRental();
        x.addTitle(1000, 1);
        x.addTitle(9000, 1);
        x.addCourse(0, 1, 1);
        x.buy(0, 5);
        x.buy(1, 3);
        Due.is("in stock", x.agingOf(0), 1000);
        x.rent(0, 0);
        Due.is("rented", x.agingOf(0), 1000);
        x.shelf(0, 3);
        Due.is("missing", x.agingOf(0), 1000);
        x.sell(1);
        Due.is("not sold", x.agingOf(0), 800);
        long before = x.digest();
        x.agingOf(0);
        Due.isTrue("nothing is changed", x.digest() == before);
        x.pass(131);
        Due.is("not lost", x.agingOf(0), 600);
    }

    private static void served() {
        BookRental x = new BookRental();
        x.addTitle(1000, 1);
        x.addTitle(1000, 1);
        Due.is("without courses", x.served(), 0);
        x.addCourse(0, 1, 3);
        Due.is("without copies", x.served(), 0);
        x.buy(0, 2);
        Due.is("by the stock", x.served(), 2);
        x.buy(0, 5);
        Due.is("by the students", x.served(), 3);
        x.addCourse(0, 2, 4);
        Due.is("none of edition 2", x.served(), 3);
        x.newEdition(0);
        x.buy(0, 3);
        Due.is("dealt out so that they are most", x.served(), 6);
        x.setCourse(0, 1, 200);
        Due.is("all are dealt out", x.served(), 10);
        x.addCourse(0, 2, 2);
        x.setCourse(0, 1, 6);
        Due.is("two courses of the same least edition", x.served(), 9);
        x.buy(1, 4);
        Due.is("not of another title", x.served(), 9);
        x.addCourse(1, 1, 3);
        Due.is("with the other title", x.served(), 12);
        x.setCourse(0, 3, 6);
        Due.is("none of edition 3", x.served(), 6);
        x.setCourse(0, 1, 0);
        Due.is("no students", x.served(), 6);
        x.buyBack(0, 30, 0);
        x.setCourse(0, 30, 1);
        Due.is("edition 30", x.served(), 7);
    }

    private static void servedByState() {
        BookRental x = new BookRental();
        x.addTitle(1000, 1);
        x.addCourse(0, 1, 100);
        x.buy(0, 6);
        x.rent(0, 0);
        Due.is("not rented ones", x.served(), 5);
        x.sell(1);
        Due.is("not sold ones", x.served(), 4);
        x.shelf(0, 3);
        Due.is("not missing ones", x.served(), 3);
        x.pass(200);
        Due.is("not lost ones", x.served(), 3);
        x.shelf(0, 4);
        Due.is("found again", x.served(), 4);
    }
}
