/** The edges of promises 11 (copy), 13 (buy), 14 (offer), 15 (buyBack), 16 (sell), and of worth and prices. */
public final class CopyEdgesTest {
    public static void main(String[] args) {
        copyIndex();
        copyRange();
        copyNotRented();
        copyLate();
        copyUse();
        worthByGrade();
        worthCut();
        twoRoundings();
        worthless();
        buyIndex();
        buyRange();
        buyFull();
        buyBehind();
        offerIndex();
        offerRanges();
        offerUse();
        offerHalf();
        buyBackIndex();
        buyBackRanges();
        buyBackZero();
        buyBackFull();
        buyBackSupply();
        sellIndex();
        sellState();
        Due.end();
    }

    private static void copyIndex() {
        Edge.sentence(11, "BAD_INDEX if there is no such copy");
        Edge.told("no copy at all", () -> Edge.titles(1), x -> x.copy(0, 0), Due.INDEX);
        Edge.range("copy", Edge::busy, (x, v) -> x.copy(v, 0), 0, 7, Due.INDEX);
        Edge.sentence(0, "There are at most 60 copies, numbered from 0 in the order in which they came");
        Edge.range("copy of sixty", Edge::full, (x, v) -> x.copy(v, 0), 0, 59, Due.INDEX);
        Edge.is("the last one is of the last title", Edge.full().copy(59, 0), 5);
        Edge.sentence(0, "If several apply to a call, the first one in this order is returned");
        Edge.told("no such copy, bad property", Edge::busy, x -> x.copy(8, 11), Due.INDEX);
    }

    private static void copyRange() {
        Edge.sentence(11, "BAD_VALUE if what is out of range");
        Edge.outside("what", Edge::busy, (x, v) -> x.copy(Edge.RENTED, v), 0, 10, Due.VALUE);
        Edge.told("the first property", Edge::busy, x -> x.copy(5, 0), 1);
        Edge.told("the last property", () -> Edge.late(3), x -> x.copy(0, 10), 3);
    }

    private static void copyNotRented() {
        Edge.sentence(0, "a state: 0 in stock, 1 rented, 2 sold, 3 lost, 4 missing");
        int[] states = {3, 1, 2, 0, 4, 1, 0, 0};
        for (int i = 0; i < states.length; i++) {
            int copy = i;
            Edge.told("the state of " + i, Edge::busy, x -> x.copy(copy, 3), states[i]);
        }
        int[] renters = {-1, 0, -1, -1, -1, 1, -1, -1};
        int[] days = {-1, 100, -1, -1, -1, 100, -1, -1};
        for (int i = 0; i < states.length; i++) {
            int copy = i;
            Edge.sentence(11, "4 the customer who has rented it (NONE if it is not rented)");
            Edge.told("of " + i, Edge::busy, x -> x.copy(copy, 4), renters[i]);
            Edge.sentence(11, "5 the day on which it is due (NONE if it is not rented)");
            Edge.told("of " + i, Edge::busy, x -> x.copy(copy, 5), days[i]);
        }
        BookRental x = Edge.late(31);
        Edge.is("of one that got lost", x.copy(0, 5), Due.NONE);
        Edge.sentence(11, "4 the customer who has rented it (NONE if it is not rented)");
        Edge.is("of one that got lost", x.copy(0, 4), Due.NONE);
        x.rent(7, 0);
        Edge.is("the last customer", x.copy(1, 4), 7);
        x.giveBack(1, 0);
        Edge.is("of one that is back", x.copy(1, 4), Due.NONE);
    }

    private static void copyLate() {
        Edge.sentence(11, "10 how many days it is late (0 if it is not, or not rented)");
        Edge.told("a day ahead", () -> Edge.late(-1), x -> x.copy(0, 10), 0);
        Edge.told("on the day on which it is due", () -> Edge.late(0), x -> x.copy(0, 10), 0);
        Edge.told("a day behind", () -> Edge.late(1), x -> x.copy(0, 10), 1);
        Edge.told("the last day", () -> Edge.late(30), x -> x.copy(0, 10), 30);
        Edge.told("lost the day behind", () -> Edge.late(31), x -> x.copy(0, 10), 0);
        Edge.told("never rented", () -> Edge.late(9), x -> x.copy(1, 10), 0);
        BookRental x = Edge.late(9);
        x.giveBack(0, 0);
        Edge.is("given back", x.copy(0, 10), 0);
        x.pass(9);
        Edge.is("and later", x.copy(0, 10), 0);
    }

    private static void copyUse() {
        Edge.sentence(11, "9: 1 if it is of use, else 0");
        BookRental x = Edge.busy();
        x.setCourse(0, 5, 0);
        for (int copy = 0; copy < 5; copy++) {
            Edge.is("just the least edition, whatever its state: " + copy, x.copy(copy, 9), 1);
        }
        x.setCourse(0, 6, 30);
        for (int copy = 0; copy < 5; copy++) {
            Edge.is("one below, whatever its state: " + copy, x.copy(copy, 9), 0);
        }
        Edge.is("of the other title", x.copy(7, 9), 1);
        x.addCourse(0, 1, 0);
        Edge.is("a second course takes it", x.copy(0, 9), 1);
        Edge.sentence(0, "A copy of a title is of use, if a course of this title takes its edition");
        BookRental y = new BookRental();
        y.addTitle(1000, 5);
        y.buy(0, 1);
        Edge.is("without a course", y.copy(0, 9), 0);
    }

    /** Copy 0 has this grade; its edition is 1, the current one is by so many editions later. */
    private static BookRental aged(int price, int grade, int cut, int behind) {
        BookRental x = new BookRental();
        x.addTitle(price, 1);
        x.addCourse(0, 1, 200);
        x.buyBack(0, 1, grade);
        x.set(3, cut);
        for (int i = 0; i < behind; i++) {
            x.newEdition(0);
        }
        return x;
    }

    private static void worthByGrade() {
        Edge.sentence(0, "a grade, 0 (like new) to 4 (worn)");
        Edge.told("like new", () -> aged(101, 0, 20, 0), x -> x.copy(0, 6), 101);
        Edge.told("worn", () -> aged(101, 4, 20, 0), x -> x.copy(0, 6), 20);
        Edge.sentence(0, "The worth of a copy by its grade is price * (100 - 20 * grade) / 100");
        int[] dear = {20000, 16000, 12000, 8000, 4000};
        int[] cheap = {100, 80, 60, 40, 20};
        int[] odd = {199, 159, 119, 79, 39};
        for (int i = 0; i < 5; i++) {
            int grade = i;
            Edge.told("of the highest price, grade " + i, () -> aged(20000, grade, 20, 0), x -> x.copy(0, 6), dear[i]);
            Edge.told("of the lowest price, grade " + i, () -> aged(100, grade, 20, 0), x -> x.copy(0, 6), cheap[i]);
            Edge.told("rounded down, grade " + i, () -> aged(199, grade, 20, 0), x -> x.copy(0, 6), odd[i]);
        }
    }

    private static void worthCut() {
        Edge.sentence(0, "with c the smaller one of 100 and the cut times the number of editions by which its own is less"
            + " than the current one (0 for a later one)");
        int[] byTwenty = {1000, 800, 600, 400, 200, 0, 0, 0};
        int[] byThirtyThree = {1000, 670, 340, 10, 0, 0, 0, 0};
        for (int i = 0; i < 8; i++) {
            int behind = i;
            Edge.told("cut 20, behind by " + i, () -> aged(1000, 0, 20, behind), x -> x.copy(0, 6), byTwenty[i]);
            Edge.told("cut 33, behind by " + i, () -> aged(1000, 0, 33, behind), x -> x.copy(0, 6), byThirtyThree[i]);
        }
        Edge.told("cut 0, behind by 29", () -> aged(1000, 0, 0, 29), x -> x.copy(0, 6), 1000);
        Edge.told("cut 50, behind by 29", () -> aged(1000, 0, 50, 29), x -> x.copy(0, 6), 0);
        Edge.told("cut 1, behind by 29", () -> aged(1000, 0, 1, 29), x -> x.copy(0, 6), 710);
        BookRental x = Edge.shop(0, 200);
        x.buyBack(0, 6, 0);
        x.buyBack(0, 30, 1);
        Edge.is("later by one", x.copy(0, 6), 1000);
        Edge.is("later by 25", x.copy(1, 6), 800);
        x.newEdition(0);
        Edge.is("the current one then", x.copy(0, 6), 1000);
        x.newEdition(0);
        Edge.is("and behind by one", x.copy(0, 6), 800);
    }

    private static void twoRoundings() {
        Edge.sentence(0, "all divisions are rounded down");
        // 104 * 80 / 100 = 83; of this 83 * 60 / 100 = 49 are taken off, and 34 are left
        Edge.told("the worth by its grade, then what is taken off", () -> aged(104, 1, 20, 3), x -> x.copy(0, 6), 34);
        // 101 * 60 / 100 = 60; 60 * 33 / 100 = 19; 41 * 40 / 100 = 16
        Edge.told("once more", () -> aged(101, 2, 33, 1), x -> x.copy(0, 6), 41);
        Edge.sentence(0, "Renting costs worth * 30 / 100, buying a copy worth * 75 / 100");
        Edge.told("renting: 34 * 30 / 100", () -> aged(104, 1, 20, 3), x -> x.copy(0, 7), 10);
        Edge.told("buying: 34 * 75 / 100", () -> aged(104, 1, 20, 3), x -> x.copy(0, 8), 25);
        Edge.recorded("sold for it", () -> aged(104, 1, 20, 3), x -> x.sell(0), 25);
        BookRental x = aged(104, 1, 20, 3);
        x.rent(0, 0);
        Edge.is("rented for it", x.customer(0, 2), 10);
        Edge.sentence(0, "half of that (of the number so found)");
        // 104 * 80 / 100 = 83; 83 * 7 / 100 = 5; 78 * 40 / 100 = 31; 31 / 2 = 15
        Edge.told("the whole", () -> aged(104, 1, 7, 1), y -> y.offer(0, 1, 1), 31);
        Edge.told("the half", () -> demanded(aged(104, 1, 7, 1), 1), y -> y.offer(0, 1, 1), 15);
    }

    private static BookRental demanded(BookRental x, int students) {
        x.setCourse(0, 1, students);
        return x;
    }

    private static void worthless() {
        Edge.sentence(11, "6 its worth, 7 what renting it costs, 8 what buying it costs");
        for (int what = 6; what <= 8; what++) {
            int price = what;
            Edge.told("nothing is left: " + what, () -> aged(1000, 0, 50, 2), x -> x.copy(0, price), 0);
        }
        Edge.recorded("it is rented for nothing", () -> aged(1000, 0, 50, 2), x -> x.rent(0, 0), 0);
        Edge.recorded("it is sold for nothing", () -> aged(1000, 0, 50, 2), x -> x.sell(0), 0);
        BookRental x = aged(1000, 0, 50, 2);
        x.rent(0, 0);
        x.pass(130);
        Edge.is("at most the worth, which is nothing", x.charge(0, 4, 2), 0);
        Edge.is("lost for nothing", x.pass(1), 1);
        Edge.is("charged in all", x.customer(0, 2), 0);
    }

    private static void buyIndex() {
        Edge.sentence(13, "BAD_INDEX if there is no such title");
        Edge.told("no title at all", Edge::empty, x -> x.buy(0, 1), Due.INDEX);
        Edge.range("title", Edge::busy, (x, v) -> x.buy(v, 1), 0, 1, Due.INDEX);
        Edge.sentence(0, "If several apply to a call, the first one in this order is returned");
        Edge.told("no such title, bad number", Edge::busy, x -> x.buy(2, 0), Due.INDEX);
        Edge.told("no such title, no room", Edge::full, x -> x.buy(6, 1), Due.INDEX);
        Edge.told("bad number, no room", Edge::full, x -> x.buy(0, 21), Due.VALUE);
        Edge.told("bad number, no room", Edge::full, x -> x.buy(0, 0), Due.VALUE);
    }

    private static void buyRange() {
        Edge.sentence(13, "`copies`: 1 to 20");
        Edge.range("copies", Edge::busy, (x, v) -> x.buy(1, v), 1, 20, Due.VALUE);
        Edge.sentence(13, "Returns the number of the first one");
        Edge.recorded("the first of all", () -> Edge.titles(1), x -> x.buy(0, 20), 0);
        Edge.recorded("one behind eight", Edge::busy, x -> x.buy(0, 1), 8);
        Edge.recorded("twenty behind eight", Edge::busy, x -> x.buy(0, 20), 8);
        Edge.sentence(13, "for the price of the title each");
        BookRental x = Edge.titles(2);
        x.buy(1, 20);
        Edge.is("twenty", x.book(5), 20020);
        x.buy(0, 1);
        Edge.is("and one", x.book(5), 21020);
        Edge.is("twenty of them", x.title(1, 5), 20);
    }

    private static void buyFull() {
        Edge.sentence(13, "FULL if there would be more than 60 copies");
        Edge.recorded("59 and 1", () -> Edge.shop(59, 1), x -> x.buy(0, 1), 59);
        Edge.told("59 and 2", () -> Edge.shop(59, 1), x -> x.buy(0, 2), Due.FULL);
        Edge.recorded("40 and 20", () -> Edge.shop(40, 1), x -> x.buy(0, 20), 40);
        Edge.told("41 and 20", () -> Edge.shop(41, 1), x -> x.buy(0, 20), Due.FULL);
        Edge.recorded("41 and 19", () -> Edge.shop(41, 1), x -> x.buy(0, 19), 41);
        Edge.told("60 and 1", () -> Edge.shop(60, 1), x -> x.buy(0, 1), Due.FULL);
        Edge.told("60 and 20", () -> Edge.shop(60, 1), x -> x.buy(0, 20), Due.FULL);
        Edge.sentence(0, "Copies are never removed");
        BookRental x = Edge.shop(60, 1);
        x.sell(0);
        x.shelf(0, 9);
        Edge.is("sold and missing ones leave no room", x.buy(0, 1), Due.FULL);
    }

    private static void buyBehind() {
        Edge.sentence(13, "Buys new copies of the current edition, with the grade 0");
        BookRental x = Edge.busy();
        x.rent(5, 1);
        x.undo();
        x.buyBack(1, 5, 3);
        x.rent(5, 1);
        x.undo();
        x.undo();
        Edge.is("behind an undone one", x.buy(0, 1), 8);
        int[] due = {0, 5, 0, 0, -1, -1, 1000, 300, 750, 1, 0};
        for (int what = 0; what < due.length; what++) {
            Edge.is("copy(8, " + what + ")", x.copy(8, what), due[what]);
        }
        BookRental y = Edge.late(5);
        y.giveBack(0, 4);
        y.undo();
        y.undo();
        y.undo();
        Edge.is("nothing of an undone rent stays", y.copy(0, 3), 0);
        y.undo();
        Edge.is("behind an undone, rented one", y.buy(0, 1), 0);
        Edge.is("it is in stock", y.copy(0, 3), 0);
        Edge.is("with the grade 0", y.copy(0, 2), 0);
        Edge.is("nobody has it", y.copy(0, 4), Due.NONE);
    }

    private static void offerIndex() {
        Edge.sentence(14, "BAD_INDEX if there is no such title");
        Edge.told("no title at all", Edge::empty, x -> x.offer(0, 1, 0), Due.INDEX);
        Edge.range("title", Edge::busy, (x, v) -> x.offer(v, 6, 0), 0, 1, Due.INDEX);
        Edge.sentence(0, "If several apply to a call, the first one in this order is returned");
        Edge.told("no such title, bad edition", Edge::busy, x -> x.offer(2, 31, 0), Due.INDEX);
        Edge.told("no such title, bad grade", Edge::busy, x -> x.offer(2, 1, 5), Due.INDEX);
    }

    private static void offerRanges() {
        Edge.sentence(14, "`edition`: 1 to 30");
        Edge.range("edition", Edge::busy, (x, v) -> x.offer(0, v, 0), 1, 30, Due.VALUE);
        Edge.sentence(14, "`grade`: 0 to 4");
        Edge.range("grade", Edge::busy, (x, v) -> x.offer(0, 5, v), 0, 4, Due.VALUE);
        Edge.sentence(14, "BAD_VALUE if another argument is out of range");
        Edge.told("both", Edge::busy, x -> x.offer(0, 0, -1), Due.VALUE);
        Edge.told("of no use, bad grade", Edge::busy, x -> x.offer(0, 1, 5), Due.VALUE);
        Edge.told("like new, edition 30", Edge::busy, x -> x.offer(0, 30, 0), 400);
        Edge.told("worn, edition 30", Edge::busy, x -> x.offer(0, 30, 4), 80);
    }

    private static void offerUse() {
        Edge.sentence(0, "and 0 if it would not be of use");
        Edge.told("without a course", () -> courseless(), x -> x.offer(0, 5, 0), 0);
        Edge.told("just the least edition", Edge::busy, x -> x.offer(0, 4, 0), 320);
        Edge.told("one below", Edge::busy, x -> x.offer(0, 3, 0), 0);
        Edge.told("the other title's course takes it", Edge::busy, x -> x.offer(1, 4, 0), 0);
    }

    private static BookRental courseless() {
        BookRental x = Edge.shop(0, 9);
        x.addTitle(1000, 5);
        x.undo();
        x.undo();
        return x;
    }

    private static void offerHalf() {
        Edge.sentence(0, "half of that (of the number so found) if the supply of its title is at least the demand");
        Edge.told("one less than the demand", () -> Edge.shop(2, 3), x -> x.offer(0, 5, 0), 400);
        Edge.told("as the demand", () -> Edge.shop(3, 3), x -> x.offer(0, 5, 0), 200);
        Edge.told("one more", () -> Edge.shop(4, 3), x -> x.offer(0, 5, 0), 200);
        Edge.told("nothing of both", () -> Edge.shop(0, 0), x -> x.offer(0, 5, 0), 200);
        Edge.told("the supply is of copies that are of use", () -> leastSix(3), x -> x.offer(0, 6, 0), 400);
        // title 1: three students; one copy is rented, two are in stock
        Edge.told("rented ones are of the supply", Edge::busy, x -> x.offer(1, 6, 0), 400);
    }

    /** Copies of edition 5, none of which is of use. */
    private static BookRental leastSix(int copies) {
        BookRental x = Edge.shop(copies, copies);
        x.setCourse(0, 6, copies);
        return x;
    }

    private static void buyBackIndex() {
        Edge.sentence(15, "BAD_INDEX if there is no such title");
        Edge.told("no title at all", Edge::empty, x -> x.buyBack(0, 1, 0), Due.INDEX);
        Edge.range("title", Edge::busy, (x, v) -> x.buyBack(v, 6, 0), 0, 1, Due.INDEX);
        Edge.sentence(0, "If several apply to a call, the first one in this order is returned");
        Edge.told("no such title, bad edition", Edge::busy, x -> x.buyBack(2, 31, 0), Due.INDEX);
        Edge.told("no such title, bad grade", Edge::busy, x -> x.buyBack(2, 1, 5), Due.INDEX);
        Edge.told("no such title, no room", Edge::full, x -> x.buyBack(6, 1, 0), Due.INDEX);
        Edge.told("bad grade, of no use", Edge::busy, x -> x.buyBack(0, 1, 5), Due.VALUE);
        Edge.told("bad edition, no room", Edge::full, x -> x.buyBack(0, 31, 0), Due.VALUE);
        Edge.told("of no use, no room", () -> leastSix(60), x -> x.buyBack(0, 5, 0), Due.STATE);
    }

    private static void buyBackRanges() {
        Edge.sentence(15, "`edition`: 1 to 30");
        Edge.outside("edition", Edge::busy, (x, v) -> x.buyBack(0, v, 0), 1, 30, Due.VALUE);
        Edge.recorded("edition 30", Edge::busy, x -> x.buyBack(0, 30, 0), 8);
        Edge.recorded("edition 1", () -> aged(1000, 0, 20, 0), x -> x.buyBack(0, 1, 0), 1);
        Edge.sentence(15, "`grade`: 0 to 4");
        Edge.range("grade", Edge::busy, (x, v) -> x.buyBack(0, 5, v), 0, 4, Due.VALUE);
        Edge.sentence(15, "BAD_VALUE if another argument is out of range");
        Edge.told("both", Edge::busy, x -> x.buyBack(0, 0, 5), Due.VALUE);
        BookRental x = Edge.busy();
        Edge.sentence(15, "Returns the number of the copy");
        Edge.is("worn, edition 30", x.buyBack(0, 30, 4), 8);
        int[] due = {0, 30, 4, 0, -1, -1, 200, 60, 150, 1, 0};
        for (int what = 0; what < due.length; what++) {
            Edge.is("copy(8, " + what + ")", x.copy(8, what), due[what]);
        }
        Edge.is("what was paid", x.book(6), 80);
    }

    private static void buyBackZero() {
        Edge.sentence(15, "BAD_STATE if 0 is offered for it");
        Edge.told("of no use", Edge::busy, x -> x.buyBack(0, 3, 0), Due.STATE);
        Edge.told("without a course", () -> courseless(), x -> x.buyBack(0, 5, 0), Due.STATE);
        Edge.told("without worth", () -> aged(1000, 0, 50, 2), x -> x.buyBack(0, 1, 0), Due.STATE);
        // worn, at the price 100: 20; with 90 of 100 taken off: 2, for which nothing is offered; with 85: 3, and 1 is
        Edge.told("2 * 40 / 100", () -> aged(100, 0, 45, 2), x -> x.buyBack(0, 1, 4), Due.STATE);
        Edge.recorded("3 * 40 / 100", () -> aged(100, 0, 17, 5), x -> x.buyBack(0, 1, 4), 1);
        Edge.told("half of 1", () -> demanded(aged(100, 0, 17, 5), 1), x -> x.buyBack(0, 1, 4), Due.STATE);
        // with 75 of 100 taken off: 5, and 2 are offered
        Edge.recorded("half of 2", () -> demanded(aged(100, 0, 25, 3), 1), x -> x.buyBack(0, 1, 4), 1);
    }

    private static void buyBackFull() {
        Edge.sentence(15, "FULL if there are 60 copies");
        Edge.recorded("59 copies", () -> Edge.shop(59, 1), x -> x.buyBack(0, 5, 0), 59);
        Edge.told("60 copies", () -> Edge.shop(60, 1), x -> x.buyBack(0, 5, 0), Due.FULL);
    }

    private static void buyBackSupply() {
        Edge.sentence(15, "(the supply is that without it)");
        BookRental x = Edge.shop(1, 2);
        x.buyBack(0, 5, 0);
        Edge.is("the whole for the last one that lacks", x.book(6), 400);
        x.buyBack(0, 5, 0);
        Edge.is("the half for one more", x.book(6), 600);
    }

    private static void sellIndex() {
        Edge.sentence(16, "BAD_INDEX if there is no such copy");
        Edge.told("no copy at all", () -> Edge.titles(1), x -> x.sell(0), Due.INDEX);
        Edge.outside("copy", Edge::busy, (x, v) -> x.sell(v), 0, 7, Due.INDEX);
        Edge.range("copy of sixty", Edge::full, (x, v) -> x.sell(v), 0, 59, Due.INDEX);
        Edge.recorded("the last one", Edge::busy, x -> x.sell(7), 1500);
    }

    private static void sellState() {
        Edge.sentence(16, "BAD_STATE if it is not in stock");
        Edge.told("a lost one", Edge::busy, x -> x.sell(Edge.LOST), Due.STATE);
        Edge.told("a rented one", Edge::busy, x -> x.sell(Edge.RENTED), Due.STATE);
        Edge.told("a sold one", Edge::busy, x -> x.sell(Edge.SOLD), Due.STATE);
        Edge.told("a missing one", Edge::busy, x -> x.sell(Edge.MISSING), Due.STATE);
        Edge.recorded("one in stock", Edge::busy, x -> x.sell(Edge.STOCKED), 750);
        BookRental x = Edge.busy();
        x.sell(Edge.STOCKED);
        Edge.is("it is sold", x.copy(Edge.STOCKED, 3), 2);
        Edge.is("the sum", x.book(4), 1500);
        Edge.is("nobody is charged", x.customer(0, 2), 300);
    }
}
