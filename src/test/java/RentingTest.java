/** Promises 17 (rent), 18 (next), 19 (giveBack), 20 (charge), 21 (pass), 23 (customer). */
public final class RentingTest {
    public static void main(String[] args) {
        rentErrors();
        rentLimits();
        next();
        giveBack();
        lateness();
        charge();
        pass();
        passToTheLastDay();
        customer();
        Due.end();
    }

    private static BookRental shop(int price, int copies) {
        BookRental x = new BookRental();
        x.addTitle(price, 3);
        x.addCourse(0, 1, 9);
        x.buy(0, copies);
        return x;
    }

    private static void rentErrors() {
        BookRental x = shop(1000, 1);
        Due.is("rent(-1, 0)", x.rent(-1, 0), Due.INDEX);
        Due.is("rent(8, 0)", x.rent(8, 0), Due.INDEX);
        Due.is("rent(0, -1)", x.rent(0, -1), Due.INDEX);
        Due.is("rent(0, 1)", x.rent(0, 1), Due.INDEX);
        x.pass(2);
        Due.is("rent(7, 0)", x.rent(7, 0), 0);
        Due.is("its renter", x.copy(0, 4), 7);
        Due.is("its day", x.copy(0, 5), 102);
        Due.is("its rent", x.book(0), 300);
        Due.is("charged", x.customer(7, 2), 300);
        Due.is("none in stock", x.rent(0, 0), Due.STATE);
        Due.is("undo of rent", x.undo(), 4);
        Due.is("in stock", x.copy(0, 3), 0);
        Due.is("nothing charged", x.customer(7, 2), 0);
        x.setCourse(0, 4, 9);
        Due.is("none that the course takes", x.rent(0, 0), Due.STATE);
        x.setCourse(0, 3, 9);
        Due.is("one of just the least edition", x.rent(0, 0), 0);
    }

    private static void rentLimits() {
        BookRental x = new BookRental();
        for (int title = 0; title < 5; title++) {
            x.addTitle(1000, 1);
            x.addCourse(title, 1, 1);
            x.buy(title, 2);
        }
        x.addCourse(0, 1, 1);
        Due.is("first title", x.rent(0, 0), 0);
        Due.is("the same title for another course", x.rent(0, 5), Due.STATE);
        Due.is("for another customer", x.rent(1, 5), 1);
        Due.is("second title", x.rent(0, 1), 2);
        Due.is("third title", x.rent(0, 2), 4);
        Due.is("fourth title", x.rent(0, 3), 6);
        Due.is("a fifth copy", x.rent(0, 4), Due.STATE);
        Due.is("after one is back", x.giveBack(2, 0), 0);
        Due.is("the fifth title", x.rent(0, 4), 8);
        Due.is("a fifth copy again", x.rent(0, 1), Due.STATE);
        Due.is("ruined", x.giveBack(0, 4), 600);
        Due.is("the first title again", x.rent(0, 0), 0);
    }

    private static void next() {
        BookRental x = new BookRental();
        x.addTitle(1000, 5);
        x.addTitle(1000, 5);
        x.addCourse(0, 3, 99);
        Due.is("none", x.next(0), Due.NONE);
        Due.is("next(-1)", x.next(-1), Due.INDEX);
        Due.is("next(1)", x.next(1), Due.INDEX);
        x.buy(1, 1);
        Due.is("none of this title", x.next(0), Due.NONE);
        x.buy(0, 1);
        Due.is("one", x.next(0), 1);
        x.buy(0, 1);
        Due.is("the lowest number of several", x.next(0), 1);
        x.buyBack(0, 4, 0);
        Due.is("a lower edition ahead of a lower number", x.next(0), 3);
        x.buyBack(0, 5, 2);
        Due.is("a greater grade ahead of a lower edition", x.next(0), 4);
        x.buyBack(0, 6, 3);
        x.buyBack(0, 3, 3);
        x.buyBack(0, 3, 3);
        Due.is("greatest grade, then lowest edition, then lowest number", x.next(0), 6);
        Due.is("rent takes it", x.rent(0, 0), 6);
        Due.is("then the other like it", x.next(0), 7);
        x.setCourse(0, 4, 99);
        Due.is("not below the least edition", x.next(0), 5);
        x.sell(5);
        x.shelf(0, 4);
        Due.is("neither sold nor missing ones", x.next(0), 4);
        Due.is("nothing is changed", x.copy(4, 3), 0);
    }

    private static void giveBack() {
        BookRental x = shop(1000, 3);
        Due.is("giveBack(-1, 0)", x.giveBack(-1, 0), Due.INDEX);
        Due.is("BAD_INDEX ahead of BAD_VALUE", x.giveBack(3, 5), Due.INDEX);
        Due.is("BAD_VALUE ahead of BAD_STATE", x.giveBack(0, 5), Due.VALUE);
        Due.is("giveBack(0, -1)", x.giveBack(0, -1), Due.VALUE);
        Due.is("not rented", x.giveBack(0, 0), Due.STATE);
        x.rent(0, 0);
        Due.is("no damage", x.giveBack(0, 0), 0);
        Due.is("grade 0", x.copy(0, 2), 0);
        Due.is("in stock again", x.copy(0, 3), 0);
        x.rent(1, 0);
        Due.is("one step is free", x.giveBack(0, 1), 0);
        Due.is("grade 1", x.copy(0, 2), 1);
        x.rent(2, 0);
        Due.is("a second step is not: 600 - 400", x.giveBack(0, 2), 200);
        Due.is("grade 3", x.copy(0, 2), 3);
        Due.is("damages", x.book(2), 200);
        x.rent(3, 0);
        Due.is("just worn", x.giveBack(0, 1), 0);
        Due.is("grade 4", x.copy(0, 2), 4);
        x.rent(4, 0);
        Due.is("worn, without damage", x.giveBack(0, 0), 0);
        x.rent(5, 0);
        Due.is("ruined: its worth", x.giveBack(0, 1), 200);
        Due.is("it is lost", x.copy(0, 3), 3);
        Due.is("it keeps its grade", x.copy(0, 2), 4);
        Due.is("no damages", x.book(2), 200);
        Due.is("but a loss", x.book(3), 200);
        Due.is("charged with its rent", x.customer(5, 2), 260);
        Due.is("undo of giveBack", x.undo(), 4);
        Due.is("rented again", x.copy(0, 3), 1);
        Due.is("by the same", x.copy(0, 4), 5);
        x.rent(0, 0);
        Due.is("from 0 to 4: 800 - 200", x.giveBack(1, 4), 600);
        x.newEdition(0);
        x.rent(0, 0);
        Due.is("the most used one", x.copy(1, 4), 0);
        x.rent(2, 0);
        Due.is("one behind, from 0 to 2: 640 - 480", x.giveBack(2, 2), 160);
    }

    private static void lateness() {
        BookRental x = shop(1000, 2);
        x.rent(0, 0);
        x.rent(1, 0);
        x.pass(100);
        Due.is("on the day on which it is due", x.charge(0, 0, 2), 0);
        x.pass(1);
        Due.is("a day late", x.charge(0, 0, 2), 25);
        x.pass(9);
        Due.is("ten days late, and damaged", x.giveBack(0, 3), 250 + 400);
        Due.is("late fees", x.book(1), 250);
        Due.is("damages", x.book(2), 400);
        Due.is("charged", x.customer(0, 2), 300 + 650);
        x.set(1, 200);
        Due.is("at most the worth", x.charge(1, 0, 0), 1000);
        x.newEdition(0);
        Due.is("as it is now", x.charge(1, 0, 0), 800);
        x.set(1, 80);
        Due.is("just the worth", x.charge(1, 0, 0), 800);
        x.set(1, 79);
        Due.is("a little less", x.charge(1, 0, 0), 790);
        x.rent(2, 0);
        x.pass(20);
        Due.is("lateness beside the worth", x.charge(1, 4, 2), 800 + 640 - 160);
        Due.is("not late is free", x.charge(0, 1, 2), 0);
        Due.is("ruined, not late", x.giveBack(0, 4), 320);
        x.set(1, 0);
        Due.is("without a fee", x.giveBack(1, 1), 0);

        BookRental y = shop(1000, 1);
        y.rent(0, 0);
        y.giveBack(0, 3);
        y.rent(1, 0);
        y.pass(105);
        Due.is("late and ruined", y.giveBack(0, 2), 125 + 400);
        Due.is("late fees then", y.book(1), 125);
        Due.is("losses then", y.book(3), 400);
        Due.is("damages then", y.book(2), 400);
        Due.is("charged in all", y.customer(1, 2), 120 + 525);
    }

    private static void charge() {
        BookRental x = shop(1000, 2);
        Due.is("charge(-1, 0, 0)", x.charge(-1, 0, 0), Due.INDEX);
        Due.is("BAD_INDEX ahead of BAD_VALUE", x.charge(2, 5, 3), Due.INDEX);
        Due.is("BAD_VALUE ahead of BAD_STATE", x.charge(0, 5, 0), Due.VALUE);
        Due.is("charge(0, -1, 0)", x.charge(0, -1, 0), Due.VALUE);
        Due.is("charge(0, 0, -1)", x.charge(0, 0, -1), Due.VALUE);
        Due.is("charge(0, 0, 3)", x.charge(0, 0, 3), Due.VALUE);
        Due.is("not rented", x.charge(0, 0, 0), Due.STATE);
        x.rent(0, 0);
        x.pass(104);
        Due.is("lateness", x.charge(0, 3, 0), 100);
        Due.is("damage", x.charge(0, 3, 1), 400);
        Due.is("both", x.charge(0, 3, 2), 500);
        Due.is("one step", x.charge(0, 1, 1), 0);
        long before = x.digest();
        x.charge(0, 4, 2);
        Due.isTrue("nothing is changed", x.digest() == before);
        Due.is("nothing is recorded", x.undo(), 4);
        Due.is("it was the days", x.count(3), 0);
        x.giveBack(0, 2);
        x.rent(0, 0);
        Due.is("as it is lost", x.charge(0, 3, 1), 600);
        Due.is("not yet", x.charge(0, 2, 1), 200);
    }

    private static void pass() {
        BookRental x = shop(1000, 4);
        Due.is("pass(0)", x.pass(0), Due.VALUE);
        Due.is("pass(401)", x.pass(401), Due.VALUE);
        Due.is("pass(min)", x.pass(Integer.MIN_VALUE), Due.VALUE);
        Due.is("pass(max)", x.pass(Integer.MAX_VALUE), Due.VALUE);
        x.rent(0, 0);
        x.pass(1);
        x.rent(1, 0);
        x.rent(2, 0);
        Due.is("late by 30", x.pass(129), 0);
        Due.is("late by 31", x.pass(1), 1);
        Due.is("lost", x.copy(0, 3), 3);
        Due.is("without a renter", x.copy(0, 4), Due.NONE);
        Due.is("without a day", x.copy(0, 5), Due.NONE);
        Due.is("no more late", x.copy(0, 10), 0);
        Due.is("its grade", x.copy(0, 2), 0);
        Due.is("the worth alone", x.customer(0, 2), 1300);
        Due.is("no fee", x.book(1), 0);
        Due.is("loss", x.book(3), 1000);
        Due.is("the others", x.pass(1), 2);
        Due.is("their losses", x.book(3), 3000);
        Due.is("charged to the last", x.customer(2, 2), 1300);
        Due.is("nothing more", x.pass(400), 0);
        Due.is("the day", x.count(3), 532);
        Due.is("undo of pass", x.undo(), 4);
        Due.is("the day before", x.count(3), 132);
        x.undo();
        Due.is("rented again", x.copy(2, 4), 2);
    }

    private static void passToTheLastDay() {
        BookRental x = new BookRental();
        for (int i = 0; i < 249; i++) {
            x.pass(400);
        }
        Due.is("pass(399)", x.pass(399), 0);
        Due.is("day 99999", x.count(3), 99999);
        Due.is("day 100001", x.pass(2), Due.FULL);
        Due.is("BAD_VALUE ahead of FULL", x.pass(401), Due.VALUE);
        Due.is("still day 99999", x.count(3), 99999);
        Due.is("day 100000", x.pass(1), 0);
        Due.is("day 100001 again", x.pass(1), Due.FULL);
        x.addTitle(1000, 1);
        x.addCourse(0, 1, 1);
        x.buy(0, 1);
        x.rent(0, 0);
        Due.is("due later than that", x.copy(0, 5), 100100);
        Due.is("foretold beyond it", x.lostIn(130), 0);
        Due.is("and lost there", x.lostIn(131), 1);
    }

    private static void customer() {
        BookRental x = new BookRental();
        x.addTitle(1000, 1);
        x.addTitle(1000, 1);
        x.addCourse(0, 1, 1);
        x.addCourse(1, 1, 1);
        x.buy(0, 2);
        x.buy(1, 2);
        Due.is("customer(-1, 0)", x.customer(-1, 0), Due.INDEX);
        Due.is("BAD_INDEX ahead of BAD_VALUE", x.customer(8, 3), Due.INDEX);
        Due.is("customer(0, -1)", x.customer(0, -1), Due.VALUE);
        Due.is("customer(0, 3)", x.customer(0, 3), Due.VALUE);
        x.rent(3, 0);
        x.pass(10);
        x.rent(3, 1);
        x.rent(4, 1);
        Due.is("rented by 3", x.customer(3, 0), 2);
        Due.is("rented by 4", x.customer(4, 0), 1);
        Due.is("rented by 0", x.customer(0, 0), 0);
        x.pass(90);
        Due.is("none late", x.customer(3, 1), 0);
        x.pass(1);
        Due.is("one late", x.customer(3, 1), 1);
        Due.is("4 is not late", x.customer(4, 1), 0);
        x.pass(10);
        Due.is("both late", x.customer(3, 1), 2);
        Due.is("4 is late", x.customer(4, 1), 1);
        Due.is("0 is not", x.customer(0, 1), 0);
        x.giveBack(0, 2);
        Due.is("one left", x.customer(3, 0), 1);
        Due.is("charged: 600 + 11 * 25 + 200", x.customer(3, 2), 1075);
        x.pass(30);
        Due.is("none left", x.customer(3, 0), 0);
        Due.is("none late any more", x.customer(3, 1), 0);
        Due.is("charged, with the lost one", x.customer(3, 2), 2075);
    }
}
