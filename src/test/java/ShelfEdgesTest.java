/** The edges of promises 22 (shelf), 24 (lostIn), 25 (agingOf), 26 (served). */
public final class ShelfEdgesTest {
    public static void main(String[] args) {
        shelfIndex();
        shelfRange();
        shelfState();
        tooFew();
        tooMany();
        lostInRange();
        lostInDays();
        lostInBeyondTheLastDay();
        agingIndex();
        agingFull();
        agingRounded();
        agingOwned();
        servedByStudentsAndStock();
        servedByEdition();
        servedByState();
        Due.end();
    }

    private static void shelfIndex() {
        Edge.sentence(22, "BAD_INDEX if there is no such title");
        Edge.told("no title at all", Edge::empty, x -> x.shelf(0, 0), Due.INDEX);
        Edge.range("title", Edge::busy, (x, v) -> x.shelf(v, 0), 0, 1, Due.INDEX);
        Edge.range("title of six", Edge::full, (x, v) -> x.shelf(v, 0), 0, 5, Due.INDEX);
        Edge.sentence(0, "If several apply to a call, the first one in this order is returned");
        Edge.told("no such title, bad number", Edge::busy, x -> x.shelf(2, 61), Due.INDEX);
        Edge.told("no such title, too many", Edge::busy, x -> x.shelf(2, 60), Due.INDEX);
        Edge.told("bad number, too many", Edge::busy, x -> x.shelf(0, 61), Due.VALUE);
    }

    private static void shelfRange() {
        Edge.sentence(22, "`copies`: 0 to 60");
        Edge.range("copies", () -> Edge.shop(60, 1), (x, v) -> x.shelf(0, v), 0, 60, Due.VALUE);
        Edge.recorded("all sixty", () -> Edge.shop(60, 1), x -> x.shelf(0, 60), 0);
        Edge.recorded("none of sixty", () -> Edge.shop(60, 1), x -> x.shelf(0, 0), 60);
        Edge.recorded("all sixty again", () -> allMissing(), x -> x.shelf(0, 60), 0);
        Edge.recorded("none of none", () -> Edge.shop(0, 1), x -> x.shelf(0, 0), 0);
        BookRental x = allMissing();
        states("from the last one down to the first one", x, "4".repeat(60));
        Edge.is("one of sixty", x.shelf(0, 1), 59);
        states("the first one", x, "0" + "4".repeat(59));
        Edge.is("59 of sixty", x.shelf(0, 59), 1);
        states("but the last one", x, "0".repeat(59) + "4");
        x.shelf(0, 60);
        states("the last one, too", x, "0".repeat(60));
        x.shelf(0, 59);
        states("the last one first", x, "0".repeat(59) + "4");
    }

    private static BookRental allMissing() {
        BookRental x = Edge.shop(60, 1);
        x.shelf(0, 0);
        return x;
    }

    private static void shelfState() {
        Edge.sentence(22, "BAD_STATE if there would be more than are in stock and missing");
        // of title 0 one is in stock and one missing, the others are lost, rented and sold
        Edge.recorded("as many as there are", Edge::busy, x -> x.shelf(0, 2), 0);
        Edge.told("one more", Edge::busy, x -> x.shelf(0, 3), Due.STATE);
        Edge.told("as many as can be told", Edge::busy, x -> x.shelf(0, 60), Due.STATE);
        Edge.told("one of none", () -> Edge.shop(0, 1), x -> x.shelf(0, 1), Due.STATE);
        Edge.recorded("all missing ones", () -> allMissing(), x -> x.shelf(0, 60), 0);
        Edge.told("one more than 59", () -> Edge.shop(59, 1), x -> x.shelf(0, 60), Due.STATE);
    }

    /** Copies 0, 2, 4, 6, 8 are of title 0, the others of title 1. */
    private static BookRental mixed() {
        BookRental x = Edge.titles(2);
        for (int i = 0; i < 5; i++) {
            x.buy(0, 1);
            x.buy(1, 1);
        }
        return x;
    }

    private static void states(String when, BookRental x, String due) {
        for (int copy = 0; copy < due.length(); copy++) {
            Edge.is(when + ": the state of " + copy, x.copy(copy, 3), due.charAt(copy) - '0');
        }
    }

    private static void tooFew() {
        Edge.sentence(0, "and there are fewer copies than are in stock, those with the highest numbers become missing, as many"
            + " as there are too few");
        BookRental x = mixed();
        Edge.is("just as many", x.shelf(0, 5), 0);
        states("none is missing", x, "0000000000");
        Edge.is("one too few", x.shelf(0, 4), 1);
        states("the last one", x, "0000000040");
        x.rent(0, 0);
        x.sell(6);
        Edge.is("one too few again", x.shelf(0, 1), 2);
        states("not the sold one", x, "1000402040");
        Edge.sentence(22, "Returns how many copies are missing then, of this title");
        Edge.is("all of the other title", x.shelf(1, 0), 5);
        states("down to the first one", x, "1404442444");
        Edge.is("just as many, with missing ones", x.shelf(0, 1), 2);
        states("as before", x, "1404442444");
        Edge.sentence(0, "before each call that returns no error, even if it changes nothing");
        Edge.recorded("just as many", () -> mixed(), y -> y.shelf(0, 5), 0);
        Edge.recorded("just as many, with a missing one", Edge::busy, y -> y.shelf(0, 1), 1);
    }

    private static void tooMany() {
        Edge.sentence(0, "if there are more, of the missing ones those with the lowest numbers are in stock again, as many as"
            + " there are too many");
        BookRental x = mixed();
        x.shelf(0, 1);
        x.shelf(1, 0);
        Edge.is("one too many", x.shelf(0, 2), 3);
        states("the first missing one", x, "0404444444");
        Edge.is("two too many", x.shelf(0, 4), 1);
        states("and two more", x, "0404040444");
        Edge.is("all", x.shelf(0, 5), 0);
        states("all of the title", x, "0404040404");
        Edge.is("all of the other", x.shelf(1, 5), 0);
        states("all", x, "0000000000");
        BookRental y = Edge.busy();
        y.setPrice(0, 1500);
        y.buyBack(0, 5, 2);
        y.shelf(0, 0);
        y.shelf(0, 3);
        Edge.is("one that is found keeps its grade", y.copy(8, 2), 2);
        Edge.is("and its worth", y.copy(8, 6), 900);
        Edge.is("and can be rented", y.rent(7, 0), 8);
    }

    private static void lostInRange() {
        Edge.sentence(24, "`days`: 1 to 400");
        Edge.range("days", Edge::busy, (x, v) -> x.lostIn(v), 1, 400, Due.VALUE);
        Edge.told("no copy at all", Edge::empty, x -> x.lostIn(400), 0);
        Edge.told("sixty copies, none rented", Edge::full, x -> x.lostIn(400), 0);
        BookRental x = Edge.full();
        for (int i = 0; i < 32; i++) {
            x.rent(i / 4, (i / 4 + i % 4) % 6);
        }
        Edge.is("as many rented ones as there can be", x.count(5), 32);
        Edge.is("none within 130", x.lostIn(130), 0);
        Edge.is("all within 131", x.lostIn(131), 32);
        Edge.is("as foretold", x.pass(131), 32);
    }

    private static void lostInDays() {
        Edge.sentence(24, "Foretells how many copies would become lost, if days passed");
        Edge.told("as many days as setting 2", () -> Edge.late(29), x -> x.lostIn(1), 0);
        Edge.told("one more", () -> Edge.late(30), x -> x.lostIn(1), 1);
        Edge.told("within 130", Edge::busy, x -> x.lostIn(130), 0);
        Edge.told("within 131", Edge::busy, x -> x.lostIn(131), 2);
        Edge.told("one that is lost before", () -> Edge.late(31), x -> x.lostIn(400), 0);
        BookRental x = Edge.late(29);
        x.set(2, 1);
        Edge.is("one that is too late by a new setting", x.lostIn(1), 1);
        x.set(2, 60);
        Edge.is("by the highest setting, within 31", x.lostIn(31), 0);
        Edge.is("within 32", x.lostIn(32), 1);
        x.rent(0, 0);
        Edge.is("only the first one within 160", x.lostIn(160), 1);
        Edge.is("both within 161", x.lostIn(161), 2);
        x.giveBack(0, 0);
        Edge.is("one that is back", x.lostIn(400), 1);
    }

    private static BookRental rentedOnTheLastDay() {
        BookRental x = Edge.onDay(100000);
        x.addTitle(1000, 5);
        x.addCourse(0, 1, 9);
        x.buy(0, 1);
        x.rent(0, 0);
        return x;
    }

    private static void lostInBeyondTheLastDay() {
        Edge.sentence(24, "(also beyond the day 100000)");
        Edge.told("within 130", () -> rentedOnTheLastDay(), x -> x.lostIn(130), 0);
        Edge.told("within 131", () -> rentedOnTheLastDay(), x -> x.lostIn(131), 1);
        Edge.told("within 400", () -> rentedOnTheLastDay(), x -> x.lostIn(400), 1);
        Edge.told("a bad number", () -> rentedOnTheLastDay(), x -> x.lostIn(401), Due.VALUE);
    }

    private static void agingIndex() {
        Edge.sentence(25, "BAD_INDEX if there is no such title");
        Edge.told("no title at all", Edge::empty, x -> x.agingOf(0), Due.INDEX);
        Edge.range("title", Edge::busy, (x, v) -> x.agingOf(v), 0, 1, Due.INDEX);
        Edge.told("no copy at all", () -> Edge.shop(0, 1), x -> x.agingOf(0), 0);
    }

    private static BookRental atEdition(int edition) {
        BookRental x = new BookRental();
        x.addTitle(1000, edition);
        x.buy(0, 1);
        return x;
    }

    private static void agingFull() {
        Edge.sentence(25, "FULL if the current edition is 30");
        Edge.told("29", () -> atEdition(29), x -> x.agingOf(0), 200);
        Edge.told("30", () -> atEdition(30), x -> x.agingOf(0), Due.FULL);
        BookRental x = atEdition(29);
        x.newEdition(0);
        Edge.is("30 then", x.agingOf(0), Due.FULL);
    }

    /** Copies of price 199, of the current edition and the grades 0 to 4; the cut is 7. */
    private static BookRental ofAllGrades() {
        BookRental x = new BookRental();
        x.addTitle(199, 5);
        x.addCourse(0, 1, 200);
        x.set(3, 7);
        for (int grade = 0; grade < 5; grade++) {
            x.buyBack(0, 5, grade);
        }
        return x;
    }

    private static void agingRounded() {
        Edge.sentence(25, "Tells how much the worth of all owned copies would decrease by the next edition of a title");
        // each is rounded down by itself: 13, 11, 8, 5, 2; then 27, 22, 16, 11, 5
        Edge.told("one edition behind", () -> ofAllGrades(), x -> x.agingOf(0), 13 + 11 + 8 + 5 + 2);
        BookRental x = ofAllGrades();
        x.newEdition(0);
        Edge.is("two editions behind", x.agingOf(0), 14 + 11 + 8 + 6 + 3);
        x.set(3, 0);
        Edge.is("without a cut", x.agingOf(0), 0);
        x.set(3, 50);
        Edge.is("down to nothing", x.agingOf(0), 100 + 80 + 60 + 40 + 20);
        x.newEdition(0);
        Edge.is("nothing is left", x.agingOf(0), 0);
        BookRental y = Edge.shop(0, 200);
        y.buyBack(0, 6, 0);
        Edge.is("a later edition", y.agingOf(0), 0);
        y.newEdition(0);
        Edge.is("the current one", y.agingOf(0), 200);
        Edge.told("as much as can be", () -> dear(), z -> z.agingOf(0), 60 * 10000);
    }

    private static BookRental dear() {
        BookRental x = Edge.shop(60, 1);
        x.setPrice(0, 20000);
        x.set(3, 50);
        return x;
    }

    private static void agingOwned() {
        Edge.sentence(0, "What is owned is the number of copies in stock, rented or missing");
        Edge.told("not the lost and the sold one", Edge::busy, x -> x.agingOf(0), 3 * 200);
        Edge.told("of the other title", Edge::busy, x -> x.agingOf(1), 3 * 400);
        BookRental x = Edge.busy();
        x.shelf(0, 2);
        Edge.is("all found", x.agingOf(0), 600);
        x.shelf(0, 0);
        Edge.is("all missing", x.agingOf(0), 600);
        x.pass(131);
        Edge.is("the rented one is lost", x.agingOf(0), 400);
    }

    private static void served(String when, long due, int[] stock, int[][] courses) {
        Edge.told(when, () -> dealt(stock, courses), BookRental::served, due);
    }

    /** So many copies of each edition from 1 on, and courses of a least edition and students. */
    private static BookRental dealt(int[] stock, int[][] courses) {
        BookRental x = new BookRental();
        x.addTitle(1000, 1);
        for (int edition = 1; edition <= stock.length; edition++) {
            if (stock[edition - 1] > 0) {
                x.buy(0, stock[edition - 1]);
            }
            x.newEdition(0);
        }
        for (int[] course : courses) {
            x.addCourse(0, course[0], course[1]);
        }
        return x;
    }

    private static void servedByStudentsAndStock() {
        Edge.sentence(26, "Tells how many students of all courses could get a copy each from the stock at most");
        Edge.told("nothing at all", Edge::empty, BookRental::served, 0);
        served("no course", 0, new int[] {3}, new int[][] {});
        served("no copy", 0, new int[] {}, new int[][] {{1, 9}});
        served("no students", 0, new int[] {3}, new int[][] {{1, 0}});
        served("one student less", 2, new int[] {3}, new int[][] {{1, 2}});
        served("as many students", 3, new int[] {3}, new int[][] {{1, 3}});
        served("one student more", 3, new int[] {3}, new int[][] {{1, 4}});
        Edge.told("sixty copies of six titles", Edge::full, BookRental::served, 60);
        served("six courses of 200", 20, new int[] {20},
            new int[][] {{1, 200}, {1, 200}, {1, 200}, {1, 200}, {1, 200}, {1, 200}});
    }

    private static void servedByEdition() {
        Edge.sentence(26, "a copy of the title with an edition that the course takes, dealt out so that they are most");
        served("just the least edition", 1, new int[] {0, 0, 1}, new int[][] {{3, 1}});
        served("one below", 0, new int[] {0, 0, 1}, new int[][] {{4, 1}});
        served("the pickier course first", 2, new int[] {1, 1}, new int[][] {{1, 1}, {2, 1}});
        served("whichever number it has", 2, new int[] {1, 1}, new int[][] {{2, 1}, {1, 1}});
        served("what it leaves goes to the other", 5, new int[] {1, 4}, new int[][] {{2, 2}, {1, 3}});
        served("all that is left", 5, new int[] {1, 4}, new int[][] {{2, 2}, {1, 9}});
        served("what is left is of no use", 3, new int[] {4, 1}, new int[][] {{1, 2}, {2, 9}});
        served("over an edition without copies", 3, new int[] {0, 0, 3}, new int[][] {{1, 2}, {3, 1}});
        served("three courses", 6, new int[] {2, 2, 2}, new int[][] {{1, 3}, {2, 2}, {3, 1}});
        served("three courses, too many for the last edition", 5, new int[] {1, 2, 2}, new int[][] {{3, 4}, {2, 2}, {1, 1}});
        served("two courses of the same least edition", 6, new int[] {1, 9}, new int[][] {{2, 2}, {2, 3}, {1, 1}});
        served("too few copies for the two", 4, new int[] {1, 3}, new int[][] {{2, 2}, {2, 3}, {1, 1}});
        BookRental x = Edge.shop(0, 200);
        x.setCourse(0, 30, 2);
        x.buyBack(0, 30, 0);
        Edge.is("edition 30 for those who take no other", x.served(), 1);
        x.setCourse(0, 1, 2);
        x.buyBack(0, 1, 0);
        Edge.is("edition 1 too", x.served(), 2);
        BookRental y = Edge.titles(2);
        y.buy(0, 20);
        Edge.is("copies of one title", y.served(), 10);
        y.buy(1, 3);
        Edge.is("of both", y.served(), 13);
    }

    private static void servedByState() {
        Edge.sentence(26, "could get a copy each from the stock");
        Edge.told("not lost, rented, sold or missing ones", Edge::busy, BookRental::served, 3);
        BookRental x = Edge.busy();
        x.shelf(0, 2);
        Edge.is("a found one", x.served(), 4);
        x.giveBack(5, 0);
        Edge.is("one that is back, for the third student", x.served(), 5);
        x.sell(6);
        Edge.is("one that is sold", x.served(), 4);
    }
}
