/** The edges of promises 17 (rent), 18 (next), 23 (customer), and of who can rent what. */
public final class RentEdgesTest {
    public static void main(String[] args) {
        rentIndex();
        rentMostFour();
        rentOncePerTitle();
        rentNothingThere();
        rentKeepsWhat();
        nextIndex();
        nextNone();
        nextOrder();
        nextIgnoresCustomers();
        customerIndex();
        customerRange();
        customerNumbers();
        customerCharged();
        Due.end();
    }

    private static void rentIndex() {
        Edge.sentence(17, "`customer`: 0 to 7");
        Edge.outside("customer", Edge::busy, (x, v) -> x.rent(v, 1), 0, 7, Due.INDEX);
        Edge.recorded("the first customer", Edge::busy, x -> x.rent(0, 1), 6);
        Edge.recorded("the last customer", Edge::busy, x -> x.rent(7, 1), 6);
        Edge.sentence(17, "BAD_INDEX if there is no such customer or course");
        Edge.told("no course at all", Edge::empty, x -> x.rent(0, 0), Due.INDEX);
        Edge.range("course", Edge::busy, (x, v) -> x.rent(3, v), 0, 1, Due.INDEX);
        Edge.range("course of six", Edge::full, (x, v) -> x.rent(3, v), 0, 5, Due.INDEX);
        Edge.told("neither", Edge::busy, x -> x.rent(8, 2), Due.INDEX);
        Edge.sentence(0, "If several apply to a call, the first one in this order is returned");
        Edge.told("no such customer, no copy", () -> Edge.shop(0, 9), x -> x.rent(8, 0), Due.INDEX);
        Edge.told("no such course, a customer with four", () -> withFour(), x -> x.rent(0, 6), Due.INDEX);
    }

    /** Six titles; customer 0 rents the first four. */
    private static BookRental withFour() {
        BookRental x = Edge.full();
        for (int course = 0; course < 4; course++) {
            x.rent(0, course);
        }
        return x;
    }

    private static void rentMostFour() {
        Edge.sentence(0, "if less than 4 copies, and none of this title, are rented by the customer");
        Edge.is("four are rented", withFour().customer(0, 0), 4);
        Edge.told("a fifth one", () -> withFour(), x -> x.rent(0, 4), Due.STATE);
        Edge.told("a fifth one", () -> withFour(), x -> x.rent(0, 5), Due.STATE);
        Edge.recorded("another customer", () -> withFour(), x -> x.rent(1, 4), 40);
        BookRental x = withFour();
        x.giveBack(10, 0);
        Edge.is("the fourth one again", x.rent(0, 5), 50);
        Edge.is("and no fifth one", x.rent(0, 1), Due.STATE);
        x.pass(131);
        Edge.is("all four are lost: a first one", x.rent(0, 0), 1);
        for (int course = 1; course < 4; course++) {
            Edge.is("and more", x.rent(0, course) >= 0 ? 1 : 0, 1);
        }
        Edge.is("up to four", x.rent(0, 4), Due.STATE);
    }

    private static void rentOncePerTitle() {
        Edge.sentence(0, "and none of this title, are rented by the customer");
        Edge.told("the same course", Edge::busy, x -> x.rent(1, 1), Due.STATE);
        BookRental x = Edge.busy();
        x.addCourse(1, 6, 9);
        Edge.is("another course of the title", x.rent(1, 2), Due.STATE);
        Edge.is("another title", x.rent(1, 0), 3);
        x.giveBack(5, 4);
        Edge.is("after it is back", x.rent(1, 2), 5);
        x.giveBack(5, 1);
        Edge.is("after it is lost", x.rent(1, 2), 6);
    }

    private static void rentNothingThere() {
        Edge.sentence(17, "or there is none in stock that the course takes");
        Edge.told("no copy at all", () -> Edge.shop(0, 9), x -> x.rent(0, 0), Due.STATE);
        Edge.told("none of this title", () -> secondTitle(), x -> x.rent(0, 1), Due.STATE);
        Edge.told("one below the least edition", () -> least(6), x -> x.rent(0, 0), Due.STATE);
        Edge.recorded("just the least edition", () -> least(5), x -> x.rent(0, 0), 0);
        BookRental x = Edge.busy();
        x.rent(7, 0);
        Edge.is("the one that is left is rented", x.rent(6, 0), Due.STATE);
        x.sell(6);
        x.shelf(1, 0);
        Edge.is("sold or missing", x.rent(6, 1), Due.STATE);
    }

    private static BookRental secondTitle() {
        BookRental x = Edge.shop(3, 9);
        x.addTitle(1000, 5);
        x.addCourse(1, 1, 9);
        return x;
    }

    private static BookRental least(int edition) {
        BookRental x = Edge.shop(3, 9);
        x.setCourse(0, edition, 9);
        return x;
    }

    private static void rentKeepsWhat() {
        Edge.sentence(17, "Returns the number of the copy");
        BookRental x = Edge.onDay(400);
        x.addTitle(1000, 5);
        x.addCourse(0, 1, 0);
        x.buy(0, 2);
        Edge.is("for a course of nobody, too", x.rent(6, 0), 0);
        int[] due = {0, 5, 0, 1, 6, 500, 1000, 300, 750, 1, 0};
        for (int what = 0; what < due.length; what++) {
            Edge.is("copy(0, " + what + ")", x.copy(0, what), due[what]);
        }
        Edge.is("the sum", x.book(0), 300);
        Edge.is("charged", x.customer(6, 2), 300);
        Edge.is("to nobody else", x.customer(7, 2), 0);
    }

    private static void nextIndex() {
        Edge.sentence(18, "BAD_INDEX if there is no such course");
        Edge.told("no course at all", Edge::empty, x -> x.next(0), Due.INDEX);
        Edge.range("course", Edge::busy, (x, v) -> x.next(v), 0, 1, Due.INDEX);
        Edge.range("course of six", Edge::full, (x, v) -> x.next(v), 0, 5, Due.INDEX);
    }

    private static void nextNone() {
        Edge.sentence(18, "NONE if there is none");
        Edge.told("no copy at all", () -> Edge.shop(0, 9), x -> x.next(0), Due.NONE);
        Edge.told("none of this title", () -> secondTitle(), x -> x.next(1), Due.NONE);
        Edge.told("one below the least edition", () -> least(6), x -> x.next(0), Due.NONE);
        Edge.told("just the least edition", () -> least(5), x -> x.next(0), 0);
        Edge.told("the only one in stock", Edge::busy, x -> x.next(0), 3);
        Edge.sentence(0, "NONE is returned only if no error applies");
        Edge.told("no such course and no copy", () -> Edge.shop(0, 9), x -> x.next(1), Due.INDEX);
    }

    private static BookRental mixed(int[] editions, int[] grades) {
        BookRental x = Edge.shop(0, 200);
        for (int i = 0; i < editions.length; i++) {
            x.buyBack(0, editions[i], grades[i]);
        }
        return x;
    }

    private static void nextOrder() {
        Edge.sentence(0, "which has the greatest grade; of several the one with the lowest edition, of several of these the"
            + " lowest number");
        next("greatest grade ahead of lowest edition", new int[] {3, 4, 5}, new int[] {2, 2, 3}, 2);
        next("and ahead of lowest number", new int[] {4, 4, 4}, new int[] {0, 4, 3}, 1);
        next("lowest edition ahead of lowest number", new int[] {5, 4, 5}, new int[] {3, 3, 3}, 1);
        next("lowest number", new int[] {4, 4, 4}, new int[] {3, 3, 3}, 0);
        next("lowest number of those with the greatest grade", new int[] {3, 5, 5, 3}, new int[] {3, 4, 4, 3}, 1);
        next("lowest number of those with the lowest edition", new int[] {6, 3, 4, 3}, new int[] {1, 1, 1, 1}, 1);
        BookRental x = mixed(new int[] {3, 4, 4, 5, 5}, new int[] {4, 1, 3, 0, 3});
        x.setCourse(0, 4, 200);
        int[] order = {2, 4, 1, 3};
        for (int customer = 0; customer < order.length; customer++) {
            Edge.is("next, of editions from 4 on", x.next(0), order[customer]);
            Edge.is("rent(" + customer + ", 0)", x.rent(customer, 0), order[customer]);
        }
        Edge.is("edition 3 is left", x.next(0), Due.NONE);
        Edge.told("the last of sixty", () -> lastWorn(), y -> y.next(0), 59);
    }

    private static void next(String which, int[] editions, int[] grades, int due) {
        Edge.told(which, () -> mixed(editions, grades), x -> x.next(0), due);
        Edge.recorded(which, () -> mixed(editions, grades), x -> x.rent(0, 0), due);
    }

    private static BookRental lastWorn() {
        BookRental x = Edge.shop(59, 200);
        x.buyBack(0, 9, 1);
        return x;
    }

    private static void nextIgnoresCustomers() {
        Edge.sentence(18, "Tells which copy would be rented for a course by a customer who can rent one");
        BookRental x = Edge.shop(9, 9);
        for (int customer = 0; customer < 8; customer++) {
            x.rent(customer, 0);
        }
        Edge.is("also if none of the eight can", x.next(0), 8);
        for (int customer = 0; customer < 8; customer++) {
            Edge.is("customer " + customer + " cannot", x.rent(customer, 0), Due.STATE);
        }
    }

    private static void customerIndex() {
        Edge.sentence(0, "There are 8 customers, numbered from 0");
        Edge.range("customer", Edge::busy, (x, v) -> x.customer(v, 0), 0, 7, Due.INDEX);
        Edge.sentence(23, "BAD_INDEX if there is no such customer");
        Edge.range("customer of a new one", Edge::empty, (x, v) -> x.customer(v, 2), 0, 7, Due.INDEX);
        Edge.sentence(0, "If several apply to a call, the first one in this order is returned");
        Edge.told("no such customer, bad number", Edge::busy, x -> x.customer(8, 3), Due.INDEX);
    }

    private static void customerRange() {
        Edge.sentence(23, "BAD_VALUE if what is out of range");
        Edge.range("what", Edge::busy, (x, v) -> x.customer(1, v), 0, 2, Due.VALUE);
    }

    private static void customerNumbers() {
        Edge.sentence(23, "0 how many copies are rented by the customer, 1 how many of them are late");
        Edge.told("none", Edge::busy, x -> x.customer(2, 0), 0);
        Edge.told("one", Edge::busy, x -> x.customer(1, 0), 1);
        Edge.told("four", () -> withFour(), x -> x.customer(0, 0), 4);
        Edge.told("none is late", () -> Edge.late(0), x -> x.customer(3, 1), 0);
        Edge.told("one is late", () -> Edge.late(1), x -> x.customer(3, 1), 1);
        Edge.told("one that is lost is not rented", () -> Edge.late(31), x -> x.customer(3, 0), 0);
        Edge.told("nor late", () -> Edge.late(31), x -> x.customer(3, 1), 0);
        BookRental x = withFour();
        x.pass(101);
        Edge.is("all four are late", x.customer(0, 1), 4);
        Edge.is("of nobody else", x.customer(1, 1), 0);
    }

    private static void customerCharged() {
        Edge.sentence(23, "2 all that was charged to the customer so far, the rents included");
        Edge.told("nothing", Edge::busy, x -> x.customer(7, 2), 0);
        // two rents, the damage, the ruined one
        Edge.told("rents, damages and a loss", Edge::busy, x -> x.customer(2, 2), 300 + 60 + 600 + 200);
        Edge.told("lost by the days", () -> Edge.late(31), x -> x.customer(3, 2), 300 + 1000);
        BookRental x = Edge.late(30);
        x.giveBack(0, 4);
        Edge.is("lateness and damage", x.customer(3, 2), 300 + 750 + 600);
        x.rent(4, 0);
        x.giveBack(0, 4);
        Edge.is("the next one's is not the first one's", x.customer(3, 2), 1650);
        Edge.is("but its own", x.customer(4, 2), 60 + 200);
    }
}
