import java.io.IOException;
import java.nio.file.Files;
import java.nio.file.Path;

/** What the tests of the edges share: the sentence that is tested, a call beside a twin without it, and rentals. */
final class Edge {
    interface Made {
        BookRental make();
    }

    interface Call {
        long on(BookRental x);
    }

    interface CallWith {
        long on(BookRental x, int value);
    }

    private static final int MOST_STATES = 5;
    private static final String[] SECTIONS = sections();
    private static String sentence = "";

    private Edge() {
    }

    private static String[] sections() {
        try {
            return Files.readString(Path.of("../shared/DOC.md")).replaceAll("\\s+", " ").split("## Promise \\d+: ");
        } catch (IOException e) {
            throw new IllegalStateException("the document cannot be read", e);
        }
    }

    /** The words of the document that the checks behind this are about; promise 0 is what stands ahead of promise 1. */
    static void sentence(int promise, String words) {
        sentence = promise + ", \"" + words + "\": ";
        Due.isTrue(sentence + "stands in the document", SECTIONS[promise].contains(words));
    }

    static void is(String call, long got, long want) {
        Due.is(sentence + call, got, want);
    }

    /** The call answers as is due, and what can be asked, undone and read of the text is as without it. */
    static void told(String call, Made made, Call it, long due) {
        BookRental x = made.make();
        is(call, it.on(x), due);
        sameAs(call, x, made.make());
    }

    private static void sameAs(String call, BookRental x, BookRental twin) {
        is(call + " leaves the text", x.textFault(), twin.textFault());
        int left = 0;
        for (int i = 0; i <= MOST_STATES && left >= 0; i++) {
            is(call + " leaves the state, undone " + i + " times", x.digest(), twin.digest());
            left = x.undo();
            is(call + " leaves the history, undone " + i + " times", left, twin.undo());
        }
        is(call + " leaves the orders", x.orders(), twin.orders());
        is(call + " leaves what they do", x.digest(), twin.digest());
        is(call + " leaves the length of the text", x.clearText(), twin.clearText());
    }

    /** The call answers as is due, and one undo() leads back to the state before it, and behind another call too. */
    static void recorded(String call, Made made, Call it, long due) {
        BookRental x = made.make();
        is(call, it.on(x), due);
        is(call + " is recorded", x.undo(), Math.min(states(made.make()) + 1, MOST_STATES) - 1);
        is(call + " is undone", x.digest(), made.make().digest());
        x = made.make();
        x.set(0, 11);
        long before = x.digest();
        is(call + " is taken behind another call", it.on(x) >= 0 ? 1 : 0, 1);
        x.undo();
        is(call + " is undone behind another call", x.digest(), before);
    }

    private static int states(BookRental x) {
        int found = 0;
        while (found <= MOST_STATES && x.undo() >= 0) {
            found++;
        }
        return found;
    }

    /** Both ends of a range are taken; what is just outside it, or far away, is refused and leaves all as it is. */
    static void range(String name, Made made, CallWith call, int low, int high, int code) {
        inside(name, made, call, low, high);
        outside(name, made, call, low, high, code);
    }

    static void inside(String name, Made made, CallWith call, int low, int high) {
        for (int value : new int[] {low, high}) {
            is(name + " " + value + " is taken", call.on(made.make(), value) >= 0 ? 1 : 0, 1);
        }
    }

    static void outside(String name, Made made, CallWith call, int low, int high, int code) {
        for (int value : new int[] {low - 1, high + 1, Integer.MIN_VALUE, Integer.MAX_VALUE}) {
            told(name + " " + value, made, x -> call.on(x, value), code);
        }
    }

    static BookRental empty() {
        return new BookRental();
    }

    /** So many titles, each with a price, an edition and a course of its own. */
    static BookRental titles(int number) {
        BookRental x = new BookRental();
        for (int i = 0; i < number; i++) {
            x.addTitle(1000 + i, 5 + i);
            x.addCourse(i, 5, 10);
        }
        return x;
    }

    /**
     * Two titles and a course for each. Copies of title 0: 0 is lost, 1 rented by customer 0, 2 sold, 3 in stock,
     * 4 missing; of title 1: 5 is rented by customer 1, 6 and 7 are in stock. The history has three states,
     * and the text an order.
     */
    static BookRental busy() {
        BookRental x = new BookRental();
        x.addTitle(1000, 5);
        x.addTitle(2000, 6);
        x.addCourse(0, 4, 30);
        x.addCourse(1, 5, 3);
        x.buy(0, 5);
        x.buy(1, 3);
        x.rent(2, 0);
        x.giveBack(0, 4);
        x.rent(2, 0);
        x.giveBack(0, 1);
        x.rent(0, 0);
        x.rent(1, 1);
        x.sell(2);
        x.shelf(0, 1);
        x.pass(1);
        x.pass(1);
        x.undo();
        x.undo();
        Due.type(x, "sell 3");
        return x;
    }

    static final int LOST = 0;
    static final int RENTED = 1;
    static final int SOLD = 2;
    static final int STOCKED = 3;
    static final int MISSING = 4;

    /** No room for one more title, course, copy, state or byte. */
    static BookRental full() {
        BookRental x = new BookRental();
        for (int i = 0; i < 6; i++) {
            x.addTitle(1000, 1);
            x.addCourse(i, 1, 200);
            x.buy(i, 10);
        }
        Due.type(x, "sell 3" + " ".repeat(94));
        return x;
    }

    /** One title, edition 5, price 1000, with a course that takes all editions, and new copies. */
    static BookRental shop(int copies, int students) {
        BookRental x = new BookRental();
        x.addTitle(1000, 5);
        x.addCourse(0, 1, students);
        for (int left = copies; left > 0; left -= 20) {
            x.buy(0, Math.min(left, 20));
        }
        return x;
    }

    /** A shop with two copies, of which customer 3 rents number 0; it is late by so many days. */
    static BookRental late(int days) {
        BookRental x = shop(2, 9);
        x.rent(3, 0);
        x.pass(100 + days);
        return x;
    }

    static BookRental onDay(int day) {
        BookRental x = new BookRental();
        for (int left = day; left > 0; left -= 400) {
            x.pass(Math.min(left, 400));
        }
        return x;
    }
}
