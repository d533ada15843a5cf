import java.util.function.IntUnaryOperator;

/**
 * The promises 1 to 32 in their order: ordinary calls, edges, and every error code that the promise names, alone
 * and together with each one behind it. What changes nothing is set beside a twin without the call.
 */
public final class PromisesTest {
    public static void main(String[] args) {
        newObject();
        addTitle();
        setPrice();
        newEdition();
        addCourse();
        setCourse();
        set();
        count();
        title();
        course();
        copy();
        book();
        buy();
        offer();
        buyBack();
        sell();
        rent();
        next();
        giveBack();
        charge();
        pass();
        shelf();
        customer();
        lostIn();
        agingOf();
        served();
        undo();
        type();
        clearText();
        textFault();
        orders();
        digest();
        Due.end();
    }

    /** Each of the calls returns the code, and changes nothing. */
    private static void error(long code, Edge.Made made, Edge.Call... calls) {
        for (int i = 0; i < calls.length; i++) {
            Edge.told("error " + code + ", call " + i, made, calls[i], code);
        }
    }

    /** Each call answers as is due, and changes nothing. */
    private static void tells(String call, Edge.Made made, Edge.CallWith it, long... due) {
        for (int what = 0; what < due.length; what++) {
            int asked = what;
            Edge.told(call + " of " + what, made, x -> it.on(x, asked), due[what]);
        }
    }

    private static BookRental edition(int current) {
        BookRental x = new BookRental();
        x.addTitle(1000, current);
        x.addCourse(0, 1, 5);
        x.buy(0, 2);
        return x;
    }

    private static BookRental busyWith(String text) {
        BookRental x = Edge.busy();
        Due.retype(x, text);
        return x;
    }

    private static void newObject() {
        Edge.sentence(1, "Creates a rental without titles, copies and courses, on the day 0, with the settings that are described, "
            + "and with an empty text.");
        tells("count", BookRental::new, BookRental::count, 0, 0, 0, 0, 0, 0, 0, 0, 0, 0, 100, 25, 30, 20);
        tells("book", BookRental::new, BookRental::book, 0, 0, 0, 0, 0, 0, 0, 100000000);
        for (int customer = 0; customer < 8; customer++) {
            int asked = customer;
            tells("customer", BookRental::new, (x, what) -> x.customer(asked, what), 0, 0, 0);
        }
        Edge.told("served", BookRental::new, BookRental::served, 0);
        Edge.told("lostIn", BookRental::new, x -> x.lostIn(400), 0);
        Edge.told("textFault", BookRental::new, BookRental::textFault, 0);
        Edge.told("clearText", BookRental::new, BookRental::clearText, 0);
        error(Due.STATE, BookRental::new, BookRental::undo, BookRental::orders);
        error(Due.INDEX, BookRental::new, x -> x.title(0, 0), x -> x.course(0, 0), x -> x.copy(0, 0));
        BookRental other = Edge.busy();
        Edge.told("made beside another one", BookRental::new, x -> x.count(0) + other.count(0), 2);
    }

    private static void addTitle() {
        Edge.sentence(2, "Returns its number; BAD_VALUE if an argument is out of range; FULL if there are 6 titles.");
        Edge.recorded("a third title", Edge::busy, x -> x.addTitle(3000, 7), 2);
        Edge.recorded("the lowest values", BookRental::new, x -> x.addTitle(100, 1), 0);
        Edge.recorded("the highest values", () -> Edge.titles(5), x -> x.addTitle(20000, 30), 5);
        BookRental x = Edge.busy();
        x.addTitle(3000, 7);
        Edge.is("its price", x.title(2, 0), 3000);
        Edge.is("its edition", x.title(2, 1), 7);
        Edge.is("titles then", x.count(0), 3);
        error(Due.VALUE, Edge::busy, y -> y.addTitle(99, 7), y -> y.addTitle(20001, 7), y -> y.addTitle(3000, 0),
            y -> y.addTitle(3000, 31), y -> y.addTitle(-3000, -7));
        error(Due.FULL, Edge::full, y -> y.addTitle(100, 1), y -> y.addTitle(20000, 30));
        error(Due.VALUE, Edge::full, y -> y.addTitle(99, 1), y -> y.addTitle(100, 0), y -> y.addTitle(20001, 31));
    }

    private static void setPrice() {
        Edge.sentence(3, "Returns the previous price; BAD_INDEX if there is no such title; BAD_VALUE if price is out of range.");
        Edge.recorded("title 0", Edge::busy, x -> x.setPrice(0, 100), 1000);
        Edge.recorded("title 1", Edge::busy, x -> x.setPrice(1, 20000), 2000);
        Edge.recorded("the price that it has", Edge::busy, x -> x.setPrice(1, 2000), 2000);
        BookRental x = Edge.busy();
        x.setPrice(0, 100);
        Edge.is("the price then", x.title(0, 0), 100);
        Edge.is("that of the other", x.title(1, 0), 2000);
        Edge.is("worth then", x.copy(Edge.STOCKED, 6), 100);
        error(Due.INDEX, Edge::busy, y -> y.setPrice(2, 1000), y -> y.setPrice(-1, 1000));
        error(Due.VALUE, Edge::busy, y -> y.setPrice(0, 99), y -> y.setPrice(1, 20001));
        error(Due.INDEX, Edge::busy, y -> y.setPrice(2, 99), y -> y.setPrice(-1, 20001));
    }

    private static void newEdition() {
        Edge.sentence(4, "Returns the current edition then; BAD_INDEX if there is no such title; FULL if it is 30.");
        Edge.recorded("title 0", Edge::busy, x -> x.newEdition(0), 6);
        Edge.recorded("title 1", Edge::busy, x -> x.newEdition(1), 7);
        Edge.recorded("the last one", () -> edition(29), x -> x.newEdition(0), 30);
        BookRental x = Edge.busy();
        x.newEdition(0);
        Edge.is("the edition then", x.title(0, 1), 6);
        Edge.is("a copy keeps its own", x.copy(Edge.STOCKED, 1), 5);
        Edge.is("and falls behind", x.copy(Edge.STOCKED, 6), 800);
        error(Due.INDEX, Edge::busy, y -> y.newEdition(2), y -> y.newEdition(-1));
        error(Due.FULL, () -> edition(30), y -> y.newEdition(0));
        error(Due.INDEX, () -> edition(30), y -> y.newEdition(1));
    }

    private static void addCourse() {
        Edge.sentence(5, "Returns its number; BAD_INDEX if there is no such title; BAD_VALUE if another argument is out of range; "
            + "FULL if there are 6 courses.");
        Edge.recorded("a third course", Edge::busy, x -> x.addCourse(1, 1, 0), 2);
        Edge.recorded("the highest values", Edge::busy, x -> x.addCourse(0, 30, 200), 2);
        BookRental x = Edge.busy();
        x.addCourse(1, 7, 20);
        Edge.is("its title", x.course(2, 0), 1);
        Edge.is("its least edition", x.course(2, 1), 7);
        Edge.is("its students", x.course(2, 2), 20);
        Edge.is("demand then", x.title(1, 2), 23);
        Edge.is("courses then", x.count(2), 3);
        error(Due.INDEX, Edge::busy, y -> y.addCourse(2, 1, 0), y -> y.addCourse(-1, 1, 0));
        error(Due.VALUE, Edge::busy, y -> y.addCourse(0, 0, 0), y -> y.addCourse(0, 31, 0), y -> y.addCourse(0, 1, -1),
            y -> y.addCourse(0, 1, 201));
        error(Due.FULL, Edge::full, y -> y.addCourse(0, 1, 0), y -> y.addCourse(5, 30, 200));
        error(Due.INDEX, Edge::full, y -> y.addCourse(6, 1, 0), y -> y.addCourse(-1, 0, 0),
            y -> y.addCourse(6, 31, 201));
        error(Due.VALUE, Edge::full, y -> y.addCourse(0, 0, 0), y -> y.addCourse(5, 1, 201));
    }

    private static void setCourse() {
        Edge.sentence(6, "Returns the previous number of students; BAD_INDEX if there is no such course; BAD_VALUE if another "
            + "argument is out of range.");
        Edge.recorded("course 0", Edge::busy, x -> x.setCourse(0, 1, 0), 30);
        Edge.recorded("course 1", Edge::busy, x -> x.setCourse(1, 30, 200), 3);
        Edge.recorded("as it is", Edge::busy, x -> x.setCourse(1, 5, 3), 3);
        BookRental x = Edge.busy();
        x.setCourse(0, 6, 7);
        Edge.is("its title", x.course(0, 0), 0);
        Edge.is("its least edition", x.course(0, 1), 6);
        Edge.is("its students", x.course(0, 2), 7);
        Edge.is("supply then", x.title(0, 3), 0);
        error(Due.INDEX, Edge::busy, y -> y.setCourse(2, 1, 0), y -> y.setCourse(-1, 1, 0));
        error(Due.VALUE, Edge::busy, y -> y.setCourse(0, 0, 0), y -> y.setCourse(0, 31, 0), y -> y.setCourse(1, 1, -1),
            y -> y.setCourse(1, 1, 201));
        error(Due.INDEX, Edge::busy, y -> y.setCourse(2, 0, 0), y -> y.setCourse(-1, 1, 201));
    }

    private static void set() {
        Edge.sentence(7, "Returns the previous value; BAD_INDEX if there is no such setting; BAD_VALUE if value is out of range.");
        int[] first = {100, 25, 30, 20};
        int[] low = {10, 0, 1, 0};
        int[] high = {200, 200, 60, 50};
        for (int i = 0; i < first.length; i++) {
            int setting = i;
            Edge.recorded("setting " + i + " to " + low[i], Edge::busy, x -> x.set(setting, low[setting]), first[i]);
            Edge.recorded("setting " + i + " to " + high[i], Edge::busy, x -> x.set(setting, high[setting]), first[i]);
            BookRental x = Edge.busy();
            x.set(i, high[i]);
            Edge.is("setting " + i + " then", x.count(10 + i), high[i]);
            error(Due.VALUE, Edge::busy, y -> y.set(setting, low[setting] - 1), y -> y.set(setting, high[setting] + 1));
        }
        error(Due.INDEX, Edge::busy, y -> y.set(4, 20), y -> y.set(-1, 20), y -> y.set(4, -1), y -> y.set(-1, 201));
    }

    private static void count() {
        Edge.sentence(8, "Returns the number; BAD_VALUE if what is out of range.");
        tells("count", Edge::busy, BookRental::count, 2, 8, 2, 0, 3, 2, 1, 1, 1, 6, 100, 25, 30, 20);
        tells("count", () -> sparse(), BookRental::count, 2, 8, 2, 0, 0, 2, 3, 1, 2, 4, 100, 25, 30, 20);
        error(Due.VALUE, Edge::busy, x -> x.count(14), x -> x.count(-1));
    }

    /** None in stock: of title 0 one is lost, one rented, one sold, two missing; of title 1 one is rented, two sold. */
    private static BookRental sparse() {
        BookRental x = Edge.busy();
        x.sell(6);
        x.sell(7);
        x.shelf(0, 0);
        return x;
    }

    private static void title() {
        Edge.sentence(9, "Returns the property; BAD_INDEX if there is no such title; BAD_VALUE if what is out of range.");
        tells("title 0", Edge::busy, (x, what) -> x.title(0, what), 1000, 5, 30, 2, 28, 5, 1);
        tells("title 1", Edge::busy, (x, what) -> x.title(1, what), 2000, 6, 3, 3, 0, 3, 2);
        tells("more than demand", () -> Edge.shop(5, 3), (x, what) -> x.title(0, what), 1000, 5, 3, 5, 0, 5, 5);
        error(Due.INDEX, Edge::busy, x -> x.title(2, 0), x -> x.title(-1, 0), x -> x.title(2, 7), x -> x.title(-1, -1));
        error(Due.VALUE, Edge::busy, x -> x.title(0, 7), x -> x.title(1, -1));
    }

    private static void course() {
        Edge.sentence(10, "Returns the property; BAD_INDEX if there is no such course; BAD_VALUE if what is out of range.");
        tells("course 0", Edge::busy, (x, what) -> x.course(0, what), 0, 4, 30, 1);
        tells("course 1", Edge::busy, (x, what) -> x.course(1, what), 1, 5, 3, 2);
        error(Due.INDEX, Edge::busy, x -> x.course(2, 0), x -> x.course(-1, 0), x -> x.course(2, 4),
            x -> x.course(-1, -1));
        error(Due.VALUE, Edge::busy, x -> x.course(0, 4), x -> x.course(1, -1));
    }

    private static void copy() {
        Edge.sentence(11, "Returns the property; BAD_INDEX if there is no such copy; BAD_VALUE if what is out of range.");
        tells("lost", Edge::busy, (x, what) -> x.copy(Edge.LOST, what), 0, 5, 4, 3, -1, -1, 200, 60, 150, 1, 0);
        tells("rented", Edge::busy, (x, what) -> x.copy(Edge.RENTED, what), 0, 5, 0, 1, 0, 100, 1000, 300, 750, 1, 0);
        tells("sold", Edge::busy, (x, what) -> x.copy(Edge.SOLD, what), 0, 5, 0, 2, -1, -1, 1000, 300, 750, 1, 0);
        tells("in stock", Edge::busy, (x, what) -> x.copy(Edge.STOCKED, what), 0, 5, 0, 0, -1, -1, 1000, 300, 750, 1,
            0);
        tells("missing", Edge::busy, (x, what) -> x.copy(Edge.MISSING, what), 0, 5, 0, 4, -1, -1, 1000, 300, 750, 1, 0);
        tells("late", () -> Edge.late(7), (x, what) -> x.copy(0, what), 0, 5, 0, 1, 3, 100, 1000, 300, 750, 1, 7);
        tells("of no use", () -> unwanted(), (x, what) -> x.copy(1, what), 0, 4, 1, 0, -1, -1, 640, 192, 480, 0, 0);
        tells("two editions behind", () -> behind(2, 49), (x, what) -> x.copy(1, what), 0, 5, 0, 0, -1, -1, 20, 6, 15,
            1, 0);
        tells("all taken off", () -> behind(2, 50), (x, what) -> x.copy(1, what), 0, 5, 0, 0, -1, -1, 0, 0, 0, 1, 0);
        tells("no more than all", () -> behind(3, 50), (x, what) -> x.copy(1, what), 0, 5, 0, 0, -1, -1, 0, 0, 0, 1, 0);
        error(Due.INDEX, Edge::busy, x -> x.copy(8, 0), x -> x.copy(-1, 0), x -> x.copy(8, 11), x -> x.copy(-1, -1));
        error(Due.VALUE, Edge::busy, x -> x.copy(0, 11), x -> x.copy(7, -1));
    }

    /** Copy 1 is of an edition that no course takes any more. */
    private static BookRental unwanted() {
        BookRental x = Edge.shop(1, 9);
        x.buyBack(0, 4, 1);
        x.setCourse(0, 5, 9);
        return x;
    }

    private static BookRental behind(int editions, int cut) {
        BookRental x = edition(5);
        x.set(3, cut);
        for (int i = 0; i < editions; i++) {
            x.newEdition(0);
        }
        return x;
    }

    private static void book() {
        Edge.sentence(12, "Returns the sum; BAD_VALUE if what is out of range.");
        tells("book", Edge::busy, BookRental::book, 1260, 0, 600, 200, 750, 11000, 0, 99991810);
        BookRental x = Edge.late(5);
        x.giveBack(0, 0);
        x.buyBack(0, 5, 0);
        Edge.is("late fees", x.book(1), 125);
        Edge.is("bought back", x.book(6), 400);
        Edge.is("the balance", x.book(7), 99998025);
        error(Due.VALUE, Edge::busy, y -> y.book(8), y -> y.book(-1));
    }

    private static void buy() {
        Edge.sentence(13, "Returns the number of the first one; BAD_INDEX if there is no such title; BAD_VALUE if copies is out of "
            + "range; FULL if there would be more than 60 copies.");
        Edge.recorded("one", Edge::busy, x -> x.buy(1, 1), 8);
        Edge.recorded("twenty", Edge::busy, x -> x.buy(0, 20), 8);
        Edge.recorded("the last one", () -> Edge.shop(59, 1), x -> x.buy(0, 1), 59);
        BookRental x = Edge.busy();
        x.newEdition(1);
        x.buy(1, 2);
        Edge.is("its title", x.copy(9, 0), 1);
        Edge.is("its edition", x.copy(9, 1), 7);
        Edge.is("its grade", x.copy(9, 2), 0);
        Edge.is("its state", x.copy(9, 3), 0);
        Edge.is("copies then", x.count(1), 10);
        Edge.is("bought new then", x.book(5), 15000);
        error(Due.INDEX, Edge::busy, y -> y.buy(2, 1), y -> y.buy(-1, 1), y -> y.buy(2, 0), y -> y.buy(-1, 21));
        error(Due.VALUE, Edge::busy, y -> y.buy(0, 0), y -> y.buy(1, 21));
        error(Due.FULL, Edge::full, y -> y.buy(0, 1), y -> y.buy(5, 20));
        error(Due.INDEX, Edge::full, y -> y.buy(6, 1), y -> y.buy(6, 21));
        error(Due.VALUE, Edge::full, y -> y.buy(0, 0), y -> y.buy(5, 21));
    }

    private static void offer() {
        Edge.sentence(14, "Returns the price; BAD_INDEX if there is no such title; BAD_VALUE if another argument is out of range.");
        Edge.told("wanted", Edge::busy, x -> x.offer(0, 4, 1), 256);
        Edge.told("of a later edition", Edge::busy, x -> x.offer(0, 30, 4), 80);
        Edge.told("supplied", Edge::busy, x -> x.offer(1, 6, 0), 400);
        Edge.told("of no use", Edge::busy, x -> x.offer(0, 3, 0), 0);
        error(Due.INDEX, Edge::busy, y -> y.offer(2, 5, 0), y -> y.offer(-1, 5, 0), y -> y.offer(2, 0, 5),
            y -> y.offer(-1, 5, -1));
        error(Due.VALUE, Edge::busy, y -> y.offer(0, 0, 0), y -> y.offer(0, 31, 0), y -> y.offer(1, 5, -1),
            y -> y.offer(1, 5, 5));
    }

    private static void buyBack() {
        Edge.sentence(15, "Returns the number of the copy; BAD_INDEX if there is no such title; BAD_VALUE if another argument is "
            + "out of range; BAD_STATE if 0 is offered for it; FULL if there are 60 copies.");
        Edge.recorded("wanted", Edge::busy, x -> x.buyBack(0, 4, 1), 8);
        Edge.recorded("the sixtieth", () -> Edge.shop(59, 1), x -> x.buyBack(0, 30, 4), 59);
        BookRental x = Edge.busy();
        x.buyBack(0, 4, 1);
        Edge.is("its title", x.copy(8, 0), 0);
        Edge.is("its edition", x.copy(8, 1), 4);
        Edge.is("its grade", x.copy(8, 2), 1);
        Edge.is("its state", x.copy(8, 3), 0);
        Edge.is("bought back then", x.book(6), 256);
        error(Due.INDEX, Edge::busy, y -> y.buyBack(2, 5, 0), y -> y.buyBack(-1, 5, 0), y -> y.buyBack(2, 0, 0),
            y -> y.buyBack(2, 5, 5));
        error(Due.VALUE, Edge::busy, y -> y.buyBack(0, 0, 0), y -> y.buyBack(0, 31, 0), y -> y.buyBack(0, 5, -1),
            y -> y.buyBack(0, 1, 5));
        error(Due.STATE, Edge::busy, y -> y.buyBack(0, 3, 0), y -> y.buyBack(1, 4, 0));
        error(Due.FULL, Edge::full, y -> y.buyBack(0, 1, 0), y -> y.buyBack(5, 30, 4));
        error(Due.INDEX, Edge::full, y -> y.buyBack(6, 1, 0), y -> y.buyBack(6, 31, 0));
        error(Due.VALUE, Edge::full, y -> y.buyBack(0, 31, 0), y -> y.buyBack(5, 1, 5));
        error(Due.STATE, () -> fullOfUnwanted(), y -> y.buyBack(0, 1, 0));
        error(Due.VALUE, () -> fullOfUnwanted(), y -> y.buyBack(0, 0, 0), y -> y.buyBack(0, 1, 5));
    }

    private static BookRental fullOfUnwanted() {
        BookRental x = Edge.full();
        x.setCourse(0, 2, 200);
        return x;
    }

    private static void sell() {
        Edge.sentence(16, "Returns what it costs; BAD_INDEX if there is no such copy; BAD_STATE if it is not in stock.");
        Edge.recorded("a copy of title 0", Edge::busy, x -> x.sell(Edge.STOCKED), 750);
        Edge.recorded("the last copy", Edge::busy, x -> x.sell(7), 1500);
        BookRental x = Edge.busy();
        x.sell(7);
        Edge.is("its state", x.copy(7, 3), 2);
        Edge.is("sold then", x.book(4), 2250);
        error(Due.INDEX, Edge::busy, y -> y.sell(8), y -> y.sell(-1));
        error(Due.STATE, Edge::busy, y -> y.sell(Edge.LOST), y -> y.sell(Edge.RENTED), y -> y.sell(Edge.SOLD),
            y -> y.sell(Edge.MISSING));
    }

    private static void rent() {
        Edge.sentence(17, "Returns the number of the copy; BAD_INDEX if there is no such customer or course; BAD_STATE if the "
            + "customer cannot rent one, or there is none in stock that the course takes.");
        Edge.recorded("course 0", Edge::busy, x -> x.rent(2, 0), Edge.STOCKED);
        Edge.recorded("course 1", Edge::busy, x -> x.rent(7, 1), 6);
        BookRental x = Edge.busy();
        x.rent(2, 0);
        Edge.is("its state", x.copy(3, 3), 1);
        Edge.is("who has it", x.copy(3, 4), 2);
        Edge.is("when it is due", x.copy(3, 5), 100);
        Edge.is("rents then", x.book(0), 1560);
        Edge.is("charged then", x.customer(2, 2), 1460);
        error(Due.INDEX, Edge::busy, y -> y.rent(8, 0), y -> y.rent(-1, 0), y -> y.rent(2, 2), y -> y.rent(2, -1),
            y -> y.rent(8, 2));
        Edge.told("one of this title is rented already", Edge::busy, y -> y.rent(0, 0), Due.STATE);
        Edge.recorded("three are rented already", () -> rented(3), y -> y.rent(5, 4), 40);
        Edge.told("four are rented already", () -> rented(4), y -> y.rent(5, 4), Due.STATE);
        Edge.recorded("another customer may", () -> rented(4), y -> y.rent(6, 4), 40);
        Edge.told("none in stock", () -> Edge.shop(0, 9), y -> y.rent(0, 0), Due.STATE);
        error(Due.INDEX, () -> Edge.shop(0, 9), y -> y.rent(8, 0), y -> y.rent(0, 1));
    }

    private static BookRental rented(int copies) {
        BookRental x = Edge.full();
        for (int course = 0; course < copies; course++) {
            x.rent(5, course);
        }
        return x;
    }

    private static void next() {
        Edge.sentence(18, "Returns the number of the copy; NONE if there is none; BAD_INDEX if there is no such course.");
        Edge.told("course 0", Edge::busy, x -> x.next(0), Edge.STOCKED);
        Edge.told("course 1", Edge::busy, x -> x.next(1), 6);
        int[] edition = {5, 5, 4, 4, 3};
        int[] grade = {0, 2, 2, 2, 1};
        BookRental y = Edge.shop(0, 99);
        for (int i = 0; i < edition.length; i++) {
            y.buyBack(0, edition[i], grade[i]);
        }
        for (int due : new int[] {2, 3, 1, 4, 0}) {
            Edge.is("grade, edition, number", y.next(0), due);
            y.sell(due);
        }
        Edge.told("none", () -> Edge.shop(0, 9), x -> x.next(0), Due.NONE);
        Edge.told("none that the course takes", () -> fullOfUnwanted(), x -> x.next(0), Due.NONE);
        error(Due.INDEX, Edge::busy, x -> x.next(2), x -> x.next(-1));
    }

    /** Customer 1 has a copy with the grade 2, four days late. */
    private static BookRental worn() {
        BookRental x = Edge.shop(0, 9);
        x.buyBack(0, 5, 2);
        x.rent(1, 0);
        x.pass(104);
        return x;
    }

    private static void giveBack() {
        Edge.sentence(19, "Returns what is charged, all together; BAD_INDEX if there is no such copy; BAD_VALUE if damage is out of "
            + "range; BAD_STATE if it is not rented.");
        int[] due = {0, 0, 200, 400, 600};
        for (int i = 0; i < due.length; i++) {
            int damage = i;
            Edge.recorded("damage " + i, Edge::busy, x -> x.giveBack(Edge.RENTED, damage), due[i]);
            Edge.recorded("late, damage " + i, () -> Edge.late(7), x -> x.giveBack(0, damage), 175 + due[i]);
        }
        Edge.recorded("late and worn", () -> worn(), x -> x.giveBack(0, 2), 300);
        Edge.recorded("late and ruined", () -> worn(), x -> x.giveBack(0, 3), 700);
        BookRental x = worn();
        x.giveBack(0, 2);
        Edge.is("worn: its state", x.copy(0, 3), 0);
        Edge.is("its grade", x.copy(0, 2), 4);
        Edge.is("damages then", x.book(2), 200);
        x = worn();
        x.giveBack(0, 3);
        Edge.is("ruined: its state", x.copy(0, 3), 3);
        Edge.is("its grade", x.copy(0, 2), 2);
        Edge.is("who has it", x.copy(0, 4), Due.NONE);
        Edge.is("late fees then", x.book(1), 100);
        Edge.is("lost then", x.book(3), 600);
        Edge.is("charged then", x.customer(1, 2), 880);
        error(Due.INDEX, Edge::busy, y -> y.giveBack(8, 0), y -> y.giveBack(-1, 0), y -> y.giveBack(8, 5),
            y -> y.giveBack(-1, -1));
        error(Due.VALUE, Edge::busy, y -> y.giveBack(1, -1), y -> y.giveBack(1, 5), y -> y.giveBack(Edge.SOLD, 5),
            y -> y.giveBack(Edge.STOCKED, -1));
        error(Due.STATE, Edge::busy, y -> y.giveBack(Edge.LOST, 0), y -> y.giveBack(Edge.SOLD, 4),
            y -> y.giveBack(Edge.STOCKED, 0),
            y -> y.giveBack(Edge.MISSING, 0));
    }

    private static void charge() {
        Edge.sentence(20, "Returns the amount; BAD_INDEX if there is no such copy; BAD_VALUE if another argument is out of range; "
            + "BAD_STATE if it is not rented.");
        tells("no damage", () -> worn(), (x, what) -> x.charge(0, 0, what), 100, 0, 100);
        tells("one step", () -> worn(), (x, what) -> x.charge(0, 1, what), 100, 0, 100);
        tells("two steps", () -> worn(), (x, what) -> x.charge(0, 2, what), 100, 200, 300);
        tells("ruined", () -> worn(), (x, what) -> x.charge(0, 3, what), 100, 600, 700);
        tells("at most the worth", () -> wornAndDear(), (x, what) -> x.charge(0, 4, what), 600, 600, 1200);
        tells("not late", Edge::busy, (x, what) -> x.charge(Edge.RENTED, 4, what), 0, 600, 600);
        error(Due.INDEX, Edge::busy, y -> y.charge(8, 0, 0), y -> y.charge(-1, 0, 0), y -> y.charge(8, 5, 0),
            y -> y.charge(8, 0, 3));
        error(Due.VALUE, Edge::busy, y -> y.charge(1, -1, 0), y -> y.charge(1, 5, 0), y -> y.charge(1, 0, -1),
            y -> y.charge(1, 0, 3),
            y -> y.charge(Edge.SOLD, 5, 0), y -> y.charge(Edge.STOCKED, 0, 3));
        error(Due.STATE, Edge::busy, y -> y.charge(Edge.LOST, 0, 0), y -> y.charge(Edge.SOLD, 0, 0),
            y -> y.charge(Edge.STOCKED, 4, 2),
            y -> y.charge(Edge.MISSING, 0, 1));
    }

    private static BookRental wornAndDear() {
        BookRental x = worn();
        x.set(1, 200);
        return x;
    }

    private static void pass() {
        Edge.sentence(21, "Returns how many copies become lost; BAD_VALUE if days is out of range; FULL if the day would be above 100000.");
        Edge.recorded("one day", Edge::busy, x -> x.pass(1), 0);
        Edge.recorded("as late as may be", Edge::busy, x -> x.pass(130), 0);
        Edge.recorded("too late", Edge::busy, x -> x.pass(131), 2);
        Edge.recorded("400 days", Edge::busy, x -> x.pass(400), 2);
        Edge.recorded("to the last day", () -> Edge.onDay(99600), x -> x.pass(400), 0);
        BookRental x = Edge.busy();
        x.pass(131);
        Edge.is("the day", x.count(3), 131);
        Edge.is("its state", x.copy(Edge.RENTED, 3), 3);
        Edge.is("lost then", x.book(3), 3200);
        Edge.is("no late fees", x.book(1), 0);
        Edge.is("charged then", x.customer(0, 2), 1300);
        error(Due.VALUE, Edge::busy, y -> y.pass(0), y -> y.pass(-1), y -> y.pass(401));
        error(Due.FULL, () -> Edge.onDay(100000), y -> y.pass(1), y -> y.pass(400));
        error(Due.FULL, () -> Edge.onDay(99601), y -> y.pass(400));
        error(Due.VALUE, () -> Edge.onDay(100000), y -> y.pass(401), y -> y.pass(0), y -> y.pass(Integer.MAX_VALUE));
    }

    private static void shelf() {
        Edge.sentence(22, "Returns how many copies are missing then, of this title; BAD_INDEX if there is no such title; BAD_VALUE if "
            + "copies is out of range; BAD_STATE if there would be more than are in stock and missing.");
        Edge.recorded("none", Edge::busy, x -> x.shelf(0, 0), 2);
        Edge.recorded("as many as there are", Edge::busy, x -> x.shelf(0, 1), 1);
        Edge.recorded("all found", Edge::busy, x -> x.shelf(0, 2), 0);
        Edge.recorded("of title 1", Edge::busy, x -> x.shelf(1, 1), 1);
        Edge.recorded("of the other title", Edge::busy, x -> x.shelf(1, 2), 0);
        Edge.recorded("sixty", () -> Edge.shop(60, 1), x -> x.shelf(0, 60), 0);
        BookRental x = Edge.busy();
        x.shelf(1, 1);
        Edge.is("the lower one stays", x.copy(6, 3), 0);
        Edge.is("the higher one is missing", x.copy(7, 3), 4);
        x.shelf(1, 0);
        x.shelf(1, 1);
        Edge.is("the lower one is found", x.copy(6, 3), 0);
        Edge.is("the higher one is not", x.copy(7, 3), 4);
        error(Due.INDEX, Edge::busy, y -> y.shelf(2, 0), y -> y.shelf(-1, 0), y -> y.shelf(2, 61), y -> y.shelf(-1, -1),
            y -> y.shelf(2, 60));
        error(Due.VALUE, Edge::busy, y -> y.shelf(0, -1), y -> y.shelf(0, 61), y -> y.shelf(1, Integer.MAX_VALUE));
        error(Due.STATE, Edge::busy, y -> y.shelf(0, 3), y -> y.shelf(1, 3), y -> y.shelf(0, 60));
    }

    private static void customer() {
        Edge.sentence(23, "Returns the number; BAD_INDEX if there is no such customer; BAD_VALUE if what is out of range.");
        tells("customer 0", Edge::busy, (x, what) -> x.customer(0, what), 1, 0, 300);
        tells("customer 2", Edge::busy, (x, what) -> x.customer(2, what), 0, 0, 1160);
        tells("customer 7", Edge::busy, (x, what) -> x.customer(7, what), 0, 0, 0);
        tells("due today", () -> Edge.late(0), (x, what) -> x.customer(3, what), 1, 0, 300);
        tells("late", () -> Edge.late(1), (x, what) -> x.customer(3, what), 1, 1, 300);
        error(Due.INDEX, Edge::busy, y -> y.customer(8, 0), y -> y.customer(-1, 0), y -> y.customer(8, 3),
            y -> y.customer(-1, -1));
        error(Due.VALUE, Edge::busy, y -> y.customer(0, 3), y -> y.customer(7, -1));
    }

    private static void lostIn() {
        Edge.sentence(24, "Returns the number; BAD_VALUE if days is out of range.");
        Edge.told("one day", Edge::busy, x -> x.lostIn(1), 0);
        Edge.told("as late as may be", Edge::busy, x -> x.lostIn(130), 0);
        Edge.told("too late", Edge::busy, x -> x.lostIn(131), 2);
        Edge.told("400 days", Edge::busy, x -> x.lostIn(400), 2);
        Edge.told("beyond the last day", () -> rentedAtTheEnd(), x -> x.lostIn(400), 1);
        error(Due.VALUE, Edge::busy, y -> y.lostIn(0), y -> y.lostIn(401), y -> y.lostIn(-1),
            y -> y.lostIn(Integer.MAX_VALUE));
    }

    private static BookRental rentedAtTheEnd() {
        BookRental x = Edge.onDay(100000);
        x.addTitle(1000, 5);
        x.addCourse(0, 5, 1);
        x.buy(0, 1);
        x.rent(0, 0);
        return x;
    }

    private static void agingOf() {
        Edge.sentence(25, "Returns the amount; BAD_INDEX if there is no such title; FULL if the current edition is 30.");
        Edge.told("title 0: the rented, the missing and the one in stock", Edge::busy, x -> x.agingOf(0), 600);
        Edge.told("title 1", Edge::busy, x -> x.agingOf(1), 1200);
        Edge.told("the rented one and two missing ones", () -> sparse(), x -> x.agingOf(0), 600);
        Edge.told("the rented one", () -> sparse(), x -> x.agingOf(1), 400);
        Edge.told("to the last edition", () -> edition(29), x -> x.agingOf(0), 400);
        error(Due.INDEX, Edge::busy, x -> x.agingOf(2), x -> x.agingOf(-1));
        error(Due.FULL, () -> edition(30), x -> x.agingOf(0));
        error(Due.INDEX, () -> edition(30), x -> x.agingOf(1));
    }

    private static void served() {
        Edge.sentence(26, "dealt out so that they are most");
        Edge.told("two titles", Edge::busy, BookRental::served, 3);
        Edge.told("the later edition is kept for the course that needs it", () -> twoCourses(1, 1),
            BookRental::served, 2);
        Edge.told("more students than copies", () -> twoCourses(200, 200), BookRental::served, 2);
        Edge.told("no students", () -> twoCourses(0, 0), BookRental::served, 0);
        Edge.told("the earlier edition serves nobody", () -> twoCourses(0, 2), BookRental::served, 1);
    }

    /** Copies of the editions 5 and 4; a course takes both, the other one the later alone. */
    private static BookRental twoCourses(int ofBoth, int ofLater) {
        BookRental x = Edge.shop(1, 9);
        x.buyBack(0, 4, 0);
        x.setCourse(0, 1, ofBoth);
        x.addCourse(0, 5, ofLater);
        return x;
    }

    private static void undo() {
        Edge.sentence(27, "Returns the number of states that are left in it; BAD_STATE if it is empty.");
        BookRental x = Edge.busy();
        long[] digests = new long[6];
        for (int i = 0; i < 6; i++) {
            digests[i] = x.digest();
            x.pass(1);
        }
        for (int left = 4; left >= 0; left--) {
            Edge.is("undo", x.undo(), left);
            Edge.is("the state", x.digest(), digests[left + 1]);
        }
        Edge.is("the oldest one was dropped", x.undo(), Due.STATE);
        Edge.is("the state stays", x.digest(), digests[1]);
        error(Due.STATE, BookRental::new, BookRental::undo);
        Edge.is("the text stays", x.clearText(), 6);
    }

    private static void type() {
        Edge.sentence(28, "Returns the length of the text; BAD_VALUE if code is out of range; FULL if the text has 100 bytes.");
        BookRental x = Edge.busy();
        Edge.is("the lowest byte", x.type(0), 7);
        Edge.is("the highest byte", x.type(255), 8);
        Edge.is("it stands in the text", x.textFault(), 6);
        for (int i = 9; i <= 100; i++) {
            Edge.is("byte " + i, x.type(' '), i);
        }
        Edge.is("byte 101", x.type(' '), Due.FULL);
        error(Due.VALUE, Edge::busy, y -> y.type(-1), y -> y.type(256));
        error(Due.FULL, Edge::full, y -> y.type(0), y -> y.type(255));
        error(Due.VALUE, Edge::full, y -> y.type(-1), y -> y.type(256));
    }

    private static void clearText() {
        Edge.sentence(29, "Returns the length that it had.");
        BookRental x = Edge.busy();
        long before = x.digest();
        Edge.is("six bytes", x.clearText(), 6);
        Edge.is("none", x.clearText(), 0);
        Edge.is("the state stays", x.digest(), before);
        Edge.is("it is not recorded", x.undo(), 2);
        Edge.is("a hundred bytes", Edge.full().clearText(), 100);
    }

    private static void textFault() {
        Edge.sentence(30, "Returns its fault; NONE if it has none.");
        String[] right = {"rent 0 0", "back 1 2", "buy 0 1", "sell 99999", "wait 007", "  wait5  ;sell 3 ",
            "buy1 2;buy 1 2;wait 1"};
        for (String text : right) {
            Edge.told(text, () -> busyWith(text), BookRental::textFault, Due.NONE);
        }
        String[] wrong = {"", "  ", "sell", "sell 1;", "rent 0", "rent 0 ", "sel", "sells 1", "sell 123456",
            "buy 1 123456", "sell 1 2",
            "buy 1;2", "Sell 1", "sell x", "sell 1,", ";", "sell 1;;", "sellz 1"};
        int[] due = {0, 2, 4, 7, 6, 7, 0, 0, 10, 11, 7, 5, 0, 5, 6, 0, 7, 0};
        for (int i = 0; i < wrong.length; i++) {
            String text = wrong[i];
            Edge.told(text, () -> busyWith(text), BookRental::textFault, due[i]);
        }
    }

    private static void orders() {
        Edge.sentence(31, "Returns how many orders were carried out without an error; BAD_STATE if the text has a fault.");
        Edge.recorded("each of the words", () -> busyWith("rent 2 0;back 3 1;sell 3;buy 1 2;wait 9"),
            BookRental::orders, 5);
        Edge.recorded("until one returns an error", () -> busyWith("sell 3;sell 3;wait 9"), BookRental::orders, 1);
        Edge.recorded("the first one", () -> busyWith("sell 2;wait 9"), BookRental::orders, 0);
        BookRental x = busyWith("rent 2 0;back 3 1;sell 3;buy 1 2;wait 9");
        BookRental twin = Edge.busy();
        x.orders();
        twin.rent(2, 0);
        twin.giveBack(3, 1);
        twin.sell(3);
        twin.buy(1, 2);
        twin.pass(9);
        Edge.is("the state then", x.digest(), twin.digest());
        Edge.is("the text stays", x.clearText(), 39);
        x = busyWith("sell 3;sell 3;wait 9");
        x.orders();
        Edge.is("those before it stay", x.copy(3, 3), 2);
        Edge.is("those behind it are left", x.count(3), 0);
        x = busyWith("wait 129;wait 00001;wait 1");
        Edge.is("three orders", x.orders(), 3);
        Edge.is("the day then", x.count(3), 131);
        Edge.is("two are lost by the last one", x.count(7), 3);
        for (String text : new String[] {"", "sell 3;", "sell 3 3", "sell 2;x"}) {
            error(Due.STATE, () -> busyWith(text), BookRental::orders);
        }
    }

    private static void digest() {
        Edge.sentence(32, "Returns h.");
        Edge.Made[] rentals = {BookRental::new, Edge::busy, Edge::full, () -> Edge.late(7), () -> worn(),
            () -> unwanted()};
        for (Edge.Made made : rentals) {
            Edge.told("digest", made, BookRental::digest, hash(made.make()));
        }
    }

    private static long hash(BookRental x) {
        long h = hash(17, 14, x::count);
        for (int i = 0; i < x.count(0); i++) {
            int title = i;
            h = hash(h, 7, what -> x.title(title, what));
        }
        for (int i = 0; i < x.count(2); i++) {
            int course = i;
            h = hash(h, 4, what -> x.course(course, what));
        }
        for (int i = 0; i < x.count(1); i++) {
            int copy = i;
            h = hash(h, 11, what -> x.copy(copy, what));
        }
        h = hash(h, 8, x::book);
        for (int i = 0; i < 8; i++) {
            int customer = i;
            h = hash(h, 3, what -> x.customer(customer, what));
        }
        return h;
    }

    private static long hash(long before, int numbers, IntUnaryOperator number) {
        long h = before;
        for (int what = 0; what < numbers; what++) {
            h = 31 * h + number.applyAsInt(what);
        }
        return h;
    }
}
