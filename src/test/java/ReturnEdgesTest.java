/** The edges of promises 19 (giveBack), 20 (charge), 21 (pass). */
public final class ReturnEdgesTest {
    public static void main(String[] args) {
        giveBackIndex();
        giveBackRange();
        giveBackState();
        ruinedOrNot();
        oneStepIsFree();
        roundedDamages();
        lateness();
        worthAheadOfAll();
        chargeIndex();
        chargeRanges();
        chargeState();
        chargeParts();
        passRange();
        passLastDay();
        passLost();
        passLosesSeveral();
        Due.end();
    }

    private static void giveBackIndex() {
        Edge.sentence(19, "BAD_INDEX if there is no such copy");
        Edge.told("no copy at all", () -> Edge.titles(1), x -> x.giveBack(0, 0), Due.INDEX);
        Edge.outside("copy", Edge::busy, (x, v) -> x.giveBack(v, 0), 0, 7, Due.INDEX);
        Edge.outside("copy of sixty", Edge::full, (x, v) -> x.giveBack(v, 0), 0, 59, Due.INDEX);
        Edge.recorded("the first of sixty", () -> bothEnds(), x -> x.giveBack(0, 2), 200);
        Edge.recorded("the last of sixty", () -> bothEnds(), x -> x.giveBack(59, 2), 200);
        Edge.sentence(0, "If several apply to a call, the first one in this order is returned");
        Edge.told("no such copy, bad damage", Edge::busy, x -> x.giveBack(8, 5), Due.INDEX);
        Edge.told("bad damage, not rented", Edge::busy, x -> x.giveBack(Edge.STOCKED, 5), Due.VALUE);
    }

    /** Of sixty copies the first one and the last one are rented. */
    private static BookRental bothEnds() {
        BookRental x = Edge.shop(59, 9);
        x.addTitle(1000, 5);
        x.addCourse(1, 1, 9);
        x.buy(1, 1);
        x.rent(0, 0);
        x.rent(0, 1);
        return x;
    }

    private static void giveBackRange() {
        Edge.sentence(19, "`damage`: 0 to 4");
        Edge.range("damage", Edge::busy, (x, v) -> x.giveBack(Edge.RENTED, v), 0, 4, Due.VALUE);
        int[] charged = {0, 0, 200, 400, 600};
        Edge.sentence(19, "Returns what is charged, all together");
        for (int i = 0; i < 5; i++) {
            int damage = i;
            Edge.recorded("damage " + i, Edge::busy, x -> x.giveBack(Edge.RENTED, damage), charged[i]);
        }
        Edge.sentence(0, "A copy that is not lost is in stock again");
        for (int i = 0; i < 5; i++) {
            BookRental x = Edge.busy();
            x.giveBack(Edge.RENTED, i);
            Edge.is("the grade after damage " + i, x.copy(Edge.RENTED, 2), i);
            Edge.is("in stock again after damage " + i, x.copy(Edge.RENTED, 3), 0);
        }
    }

    private static void giveBackState() {
        Edge.sentence(19, "BAD_STATE if it is not rented");
        Edge.told("a lost one", Edge::busy, x -> x.giveBack(Edge.LOST, 0), Due.STATE);
        Edge.told("a sold one", Edge::busy, x -> x.giveBack(Edge.SOLD, 0), Due.STATE);
        Edge.told("one in stock", Edge::busy, x -> x.giveBack(Edge.STOCKED, 0), Due.STATE);
        Edge.told("a missing one", Edge::busy, x -> x.giveBack(Edge.MISSING, 0), Due.STATE);
        Edge.told("one that the days have lost", () -> Edge.late(31), x -> x.giveBack(0, 0), Due.STATE);
        BookRental x = Edge.late(0);
        x.giveBack(0, 0);
        Edge.is("one that is back", x.giveBack(0, 0), Due.STATE);
    }

    /** Customer 0 rents copy 0, which has this grade. */
    private static BookRental rented(int price, int grade) {
        BookRental x = new BookRental();
        x.addTitle(price, 1);
        x.addCourse(0, 1, 200);
        x.buyBack(0, 1, grade);
        x.rent(0, 0);
        return x;
    }

    private static void ruinedOrNot() {
        Edge.sentence(0, "if the grade plus the damage is above 4, the worth: the copy is lost then");
        int[] worths = {1000, 800, 600, 400, 200};
        for (int grade = 0; grade < 5; grade++) {
            for (int damage = 0; damage < 5; damage++) {
                int g = grade;
                int d = damage;
                boolean isRuined = grade + damage > 4;
                int due = isRuined ? worths[grade] : damage < 2 ? 0 : worths[grade + 1] - worths[grade + damage];
                String which = "grade " + grade + ", damage " + damage;
                Edge.recorded(which, () -> rented(1000, g), x -> x.giveBack(0, d), due);
                BookRental x = rented(1000, grade);
                x.giveBack(0, damage);
                Edge.is(which + ", its state", x.copy(0, 3), isRuined ? 3 : 0);
                Edge.is(which + ", its grade", x.copy(0, 2), isRuined ? grade : grade + damage);
                Edge.is(which + ", damages", x.book(2), isRuined ? 0 : due);
                Edge.is(which + ", losses", x.book(3), isRuined ? due : 0);
                Edge.is(which + ", late fees", x.book(1), 0);
            }
        }
        Edge.sentence(19, "one that is lost by it keeps its grade");
        BookRental x = rented(1000, 3);
        x.giveBack(0, 4);
        Edge.is("grade 3", x.copy(0, 2), 3);
        Edge.is("and its worth", x.copy(0, 6), 400);
    }

    private static void oneStepIsFree() {
        Edge.sentence(0, "(one step is free)");
        for (int i = 0; i < 4; i++) {
            int grade = i;
            Edge.recorded("one step from " + i, () -> rented(1999, grade), x -> x.giveBack(0, 1), 0);
        }
        Edge.recorded("none", () -> rented(1999, 4), x -> x.giveBack(0, 0), 0);
        Edge.recorded("but not if it is ruined", () -> rented(1999, 4), x -> x.giveBack(0, 1), 399);
        Edge.sentence(0, "and if this is 2 or more");
        // it is the damage, not the grade
        Edge.recorded("grade 3, no damage", () -> rented(1999, 3), x -> x.giveBack(0, 0), 0);
        Edge.recorded("grade 2, two steps: 799 - 399", () -> rented(1999, 2), x -> x.giveBack(0, 2), 400);
    }

    private static BookRental rentedBehind() {
        BookRental x = rented(199, 0);
        x.set(3, 7);
        x.newEdition(0);
        return x;
    }

    private static void roundedDamages() {
        Edge.sentence(0, "the worth that a copy like this has with a grade that is greater by 1 than it was, minus that which"
            + " it has then, is charged");
        // by grade: 199, 159, 119, 79, 39; less 13, 11, 8, 5, 2
        Edge.recorded("148 - 111", () -> rentedBehind(), x -> x.giveBack(0, 2), 37);
        Edge.recorded("148 - 74", () -> rentedBehind(), x -> x.giveBack(0, 3), 74);
        Edge.recorded("148 - 37", () -> rentedBehind(), x -> x.giveBack(0, 4), 111);
    }

    private static void lateness() {
        Edge.sentence(0, "for lateness the days that it is late times the fee, but at most the worth");
        Edge.recorded("a day ahead", () -> Edge.late(-1), x -> x.giveBack(0, 0), 0);
        Edge.recorded("on the day on which it is due", () -> Edge.late(0), x -> x.giveBack(0, 0), 0);
        Edge.recorded("one day", () -> Edge.late(1), x -> x.giveBack(0, 0), 25);
        Edge.recorded("the last day", () -> Edge.late(30), x -> x.giveBack(0, 0), 750);
        Edge.recorded("one below the worth", () -> lateWithFee(27, 37), x -> x.giveBack(0, 0), 999);
        Edge.recorded("just the worth", () -> lateWithFee(20, 50), x -> x.giveBack(0, 0), 1000);
        Edge.recorded("more than the worth", () -> lateWithFee(10, 101), x -> x.giveBack(0, 0), 1000);
        Edge.recorded("no fee", () -> lateWithFee(5, 0), x -> x.giveBack(0, 0), 0);
        Edge.sentence(0, "These sums are kept: 0 rents, 1 late fees, 2 damages");
        BookRental two = Edge.shop(2, 9);
        two.rent(0, 0);
        two.rent(1, 0);
        two.pass(102);
        two.giveBack(0, 2);
        two.giveBack(1, 3);
        Edge.is("two rents", two.book(0), 300 + 300);
        Edge.is("two late fees", two.book(1), 50 + 50);
        Edge.is("two damages", two.book(2), 200 + 400);
        Edge.sentence(19, "lateness is charged beside its worth");
        BookRental x = rented(1000, 4);
        x.pass(103);
        Edge.is("three days and ruined", x.giveBack(0, 1), 75 + 200);
        Edge.is("late fees", x.book(1), 75);
        Edge.is("losses", x.book(3), 200);
        Edge.is("damages", x.book(2), 0);
        BookRental y = rented(1000, 4);
        y.pass(130);
        Edge.is("at most the worth, and the worth", y.giveBack(0, 4), 200 + 200);
    }

    private static BookRental lateWithFee(int days, int fee) {
        BookRental x = Edge.late(days);
        x.set(1, fee);
        return x;
    }

    private static void worthAheadOfAll() {
        Edge.sentence(0, "by the worth as it is ahead of all");
        BookRental x = lateWithFee(30, 200);
        Edge.is("lateness by the grade as it was", x.giveBack(0, 4), 1000 + 600);
        Edge.is("late fees", x.book(1), 1000);
        BookRental y = lateWithFee(30, 200);
        y.newEdition(0);
        Edge.is("but by the edition as it is", y.giveBack(0, 4), 800 + 480);
        BookRental z = lateWithFee(30, 200);
        z.setPrice(0, 100);
        Edge.is("and by the price as it is", z.giveBack(0, 4), 100 + 60);
    }

    private static void chargeIndex() {
        Edge.sentence(20, "BAD_INDEX if there is no such copy");
        Edge.told("no copy at all", () -> Edge.titles(1), x -> x.charge(0, 0, 0), Due.INDEX);
        Edge.outside("copy", Edge::busy, (x, v) -> x.charge(v, 0, 0), 0, 7, Due.INDEX);
        Edge.outside("copy of sixty", Edge::full, (x, v) -> x.charge(v, 0, 0), 0, 59, Due.INDEX);
        Edge.sentence(0, "If several apply to a call, the first one in this order is returned");
        Edge.told("no such copy, bad damage", Edge::busy, x -> x.charge(8, 5, 0), Due.INDEX);
        Edge.told("no such copy, bad part", Edge::busy, x -> x.charge(8, 0, 3), Due.INDEX);
        Edge.told("bad damage, not rented", Edge::busy, x -> x.charge(Edge.STOCKED, 5, 0), Due.VALUE);
        Edge.told("bad part, not rented", Edge::busy, x -> x.charge(Edge.STOCKED, 0, 3), Due.VALUE);
    }

    private static void chargeRanges() {
        Edge.sentence(20, "`damage`: 0 to 4");
        Edge.range("damage", Edge::busy, (x, v) -> x.charge(Edge.RENTED, v, 2), 0, 4, Due.VALUE);
        Edge.sentence(20, "`what`: 0 for lateness, 1 for the damage, or as it is lost, 2 both");
        Edge.range("what", Edge::busy, (x, v) -> x.charge(Edge.RENTED, 3, v), 0, 2, Due.VALUE);
        Edge.told("both", Edge::busy, x -> x.charge(Edge.RENTED, -1, -1), Due.VALUE);
    }

    private static void chargeState() {
        Edge.sentence(20, "BAD_STATE if it is not rented");
        Edge.told("a lost one", Edge::busy, x -> x.charge(Edge.LOST, 0, 0), Due.STATE);
        Edge.told("a sold one", Edge::busy, x -> x.charge(Edge.SOLD, 0, 0), Due.STATE);
        Edge.told("one in stock", Edge::busy, x -> x.charge(Edge.STOCKED, 0, 0), Due.STATE);
        Edge.told("a missing one", Edge::busy, x -> x.charge(Edge.MISSING, 0, 0), Due.STATE);
        Edge.told("one that the days have lost", () -> Edge.late(31), x -> x.charge(0, 0, 0), Due.STATE);
    }

    private static void chargeParts() {
        Edge.sentence(20, "0 for lateness, 1 for the damage, or as it is lost, 2 both");
        int[] forDamage = {0, 0, 200, 400, 600};
        for (int i = 0; i < 5; i++) {
            int damage = i;
            Edge.told("lateness, damage " + i, () -> Edge.late(2), x -> x.charge(0, damage, 0), 50);
            Edge.told("damage " + i, () -> Edge.late(2), x -> x.charge(0, damage, 1), forDamage[i]);
            Edge.told("both, damage " + i, () -> Edge.late(2), x -> x.charge(0, damage, 2), 50 + forDamage[i]);
        }
        Edge.told("on the day on which it is due", () -> Edge.late(0), x -> x.charge(0, 0, 0), 0);
        Edge.told("not lost yet", () -> rented(1000, 2), x -> x.charge(0, 2, 1), 200);
        Edge.told("as it is lost", () -> rented(1000, 2), x -> x.charge(0, 3, 1), 600);
        Edge.told("lost, not late", () -> rented(1000, 2), x -> x.charge(0, 3, 0), 0);
        Edge.told("rounded twice: 148 - 111", () -> rentedBehind(), x -> x.charge(0, 2, 1), 37);
    }

    private static void passRange() {
        Edge.sentence(21, "`days`: 1 to 400");
        Edge.range("days", Edge::busy, (x, v) -> x.pass(v), 1, 400, Due.VALUE);
        Edge.recorded("one day", Edge::busy, x -> x.pass(1), 0);
        Edge.recorded("400 days", Edge::busy, x -> x.pass(400), 2);
        BookRental x = Edge.busy();
        x.pass(1);
        Edge.is("the day then", x.count(3), 1);
        x.pass(400);
        Edge.is("and then", x.count(3), 401);
    }

    private static void passLastDay() {
        Edge.sentence(21, "FULL if the day would be above 100000");
        Edge.recorded("to the last day", () -> Edge.onDay(99600), x -> x.pass(400), 0);
        Edge.told("one day above", () -> Edge.onDay(99601), x -> x.pass(400), Due.FULL);
        Edge.recorded("just to the last day", () -> Edge.onDay(99601), x -> x.pass(399), 0);
        Edge.recorded("one day to the last one", () -> Edge.onDay(99999), x -> x.pass(1), 0);
        Edge.told("two days", () -> Edge.onDay(99999), x -> x.pass(2), Due.FULL);
        Edge.told("behind the last day", () -> Edge.onDay(100000), x -> x.pass(1), Due.FULL);
        Edge.sentence(0, "If several apply to a call, the first one in this order is returned");
        Edge.told("bad days, no room", () -> Edge.onDay(100000), x -> x.pass(401), Due.VALUE);
        Edge.told("bad days, no room", () -> Edge.onDay(100000), x -> x.pass(0), Due.VALUE);
        Edge.sentence(0, "It is due as many days later as a rent has");
        BookRental x = Edge.onDay(100000);
        x.addTitle(1000, 5);
        x.addCourse(0, 1, 9);
        x.buy(0, 1);
        x.rent(0, 0);
        Edge.is("behind the last day, too", x.copy(0, 5), 100100);
    }

    private static void passLost() {
        Edge.sentence(0, "each rented copy that is late then by more days than setting 2 becomes lost; its worth is charged");
        Edge.recorded("as many days", () -> Edge.late(29), x -> x.pass(1), 0);
        Edge.recorded("one more", () -> Edge.late(30), x -> x.pass(1), 1);
        Edge.recorded("many more at once", () -> Edge.late(-100), x -> x.pass(400), 1);
        for (int setting : new int[] {1, 60}) {
            BookRental x = Edge.late(0);
            x.set(2, setting);
            Edge.is("as many days as " + setting, x.pass(setting), 0);
            Edge.is("it is rented", x.copy(0, 3), 1);
            Edge.is("one more than " + setting, x.pass(1), 1);
            Edge.is("it is lost", x.copy(0, 3), 3);
        }
        Edge.sentence(21, "(of a copy that becomes lost the worth alone is charged)");
        BookRental x = Edge.late(30);
        x.newEdition(0);
        x.pass(1);
        Edge.is("losses: as its worth is then", x.book(3), 800);
        Edge.is("no late fee", x.book(1), 0);
        Edge.is("charged with its rent", x.customer(3, 2), 300 + 800);
        Edge.is("its grade", x.copy(0, 2), 0);
    }

    private static void passLosesSeveral() {
        Edge.sentence(21, "Returns how many copies become lost");
        BookRental x = Edge.shop(10, 9);
        for (int customer = 0; customer < 8; customer++) {
            x.rent(customer, 0);
            x.pass(1);
        }
        Edge.is("none yet", x.pass(122), 0);
        Edge.is("the first one", x.pass(1), 1);
        Edge.is("two more", x.pass(2), 2);
        Edge.is("all others", x.pass(400), 5);
        Edge.is("none any more", x.pass(400), 0);
        Edge.is("eight in all", x.count(7), 8);
        Edge.is("the losses", x.book(3), 8000);
        for (int customer = 0; customer < 8; customer++) {
            Edge.is("charged to " + customer, x.customer(customer, 2), 1300);
        }
        Edge.is("two are in stock", x.count(4), 2);
    }
}
