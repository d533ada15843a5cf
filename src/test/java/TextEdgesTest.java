/** The edges of promises 28 (type), 29 (clearText), 30 (textFault), 31 (orders). */
public final class TextEdgesTest {
    public static void main(String[] args) {
        typeRange();
        typeFull();
        clearText();
        noFault();
        endsTooEarly();
        otherWords();
        firstByteNotAllowed();
        digits();
        blanksBetweenNumbers();
        blanksElsewhere();
        howManyNumbers();
        bytesAroundRanges();
        namesDoNotMatter();
        longTexts();
        ordersWithAFault();
        ordersNone();
        ordersUntilAnError();
        ordersAsTheMethods();
        ordersRecorded();
        textStays();
        Due.end();
    }

    private static BookRental text(String text) {
        BookRental x = new BookRental();
        Due.type(x, text);
        return x;
    }

    private static void fault(String text, int due) {
        Edge.told("textFault() of '" + text + "'", () -> text(text), BookRental::textFault, due);
        if (due != Due.NONE) {
            Edge.told("orders() of '" + text + "'", () -> text(text), BookRental::orders, Due.STATE);
        }
    }

    private static void sound(String... texts) {
        for (String text : texts) {
            fault(text, Due.NONE);
            Edge.is("orders() of '" + text + "'", text(text).orders() >= 0 ? 1 : 0, 1);
        }
    }

    private static void typeRange() {
        Edge.sentence(28, "`code`: the byte, 0 to 255");
        Edge.range("code", Edge::busy, (x, v) -> x.type(v), 0, 255, Due.VALUE);
        Edge.sentence(28, "Returns the length of the text");
        BookRental x = new BookRental();
        for (int length = 1; length <= 100; length++) {
            Edge.is("type " + length, x.type(length % 2 == 0 ? 0 : 255), length);
        }
    }

    private static void typeFull() {
        Edge.sentence(28, "FULL if the text has 100 bytes");
        Edge.told("a byte more", Edge::full, x -> x.type(32), Due.FULL);
        Edge.sentence(0, "Orders can be given by a text of at most 100 bytes");
        Edge.is("99 and one", text(" ".repeat(99)).type(32), 100);
        Edge.sentence(0, "If several apply to a call, the first one in this order is returned");
        Edge.told("a bad byte more", Edge::full, x -> x.type(256), Due.VALUE);
        Edge.told("a bad byte more", Edge::full, x -> x.type(-1), Due.VALUE);
    }

    private static void clearText() {
        Edge.sentence(29, "Returns the length that it had");
        Edge.told("of an empty one", Edge::empty, BookRental::clearText, 0);
        Edge.is("of one byte", text("a").clearText(), 1);
        Edge.is("of a full one", Edge.full().clearText(), 100);
        BookRental x = Edge.full();
        x.clearText();
        Edge.is("then it is empty", x.clearText(), 0);
        Edge.is("its fault", x.textFault(), 0);
        Due.type(x, "wait 2");
        Edge.is("nothing of the old one stays", x.textFault(), Due.NONE);
        Edge.is("it is carried out", x.orders(), 1);
        Edge.is("two days", x.count(3), 2);
        Edge.is("of the new one", x.clearText(), 6);
    }

    private static void noFault() {
        Edge.sentence(30, "Returns its fault; NONE if it has none");
        sound("wait 1", "sell 0", "rent 0 0", "back 0 0", "buy 0 1", "wait 1;sell 0;rent 0 0;back 0 0;buy 0 1");
        fault("wait 1;sell 0;rent 0 0;back 0 0;buy 0 1;", 40);
        Edge.told("of a busy one", Edge::busy, BookRental::textFault, Due.NONE);
        Edge.told("of a full one", Edge::full, BookRental::textFault, Due.NONE);
    }

    private static void endsTooEarly() {
        Edge.sentence(0, "or its length with all blanks, if it ends too early (also if it is empty)");
        fault("", 0);
        fault(" ", 1);
        fault("  ", 2);
        fault(" ".repeat(100), 100);
        for (String word : new String[] {"rent", "back", "buy", "sell", "wait"}) {
            fault(word, word.length());
            fault(" " + word + "  ", word.length() + 3);
            fault("wait 1;" + word, word.length() + 7);
        }
        for (String word : new String[] {"rent", "back", "buy"}) {
            fault(word + "1", word.length() + 1);
            fault(word + " 12345", word.length() + 6);
            fault(word + " 12345 ", word.length() + 7);
            fault(word + " 1    ", word.length() + 6);
        }
        fault("sell 1;", 7);
        fault("sell 1;  ", 9);
        fault("sell 1 ; ", 9);
        fault("rent 1 2;", 9);
    }

    private static void otherWords() {
        Edge.sentence(0, "for another word its first byte, also if the text ends with it");
        String[] others = {"r", "ren", "rens", "rentt", "rents", "brent", "bac", "bacl", "backs", "bu", "but", "buyy", "sel",
            "seln", "sells", "wai", "wais", "waits", "a", "z", "zzzzz", "order", "tner", "rentback", "waitwait", "sent",
            "ront", "rest", "renz", "tack", "beck", "badk", "guy", "bay", "bub", "cell", "sall", "sezl", "bait", "wbit", "want",
            "renta", "rentz", "backa", "backz", "buya", "buyz", "sella", "sellz", "waita", "waitz", "arent", "zwait"};
        for (String other : others) {
            fault(other, 0);
            fault("  " + other, 2);
            fault(other + " 1", 0);
            fault(other + "1 1", 0);
            fault("wait 1;" + other, 7);
            fault("wait 1 ; " + other + "  ", 9);
        }
        Edge.sentence(0, "A word is a longest sequence of small letters");
        fault("ren t 1 1", 0);
        fault("wa it 1", 0);
        fault("wai t1", 0);
    }

    private static void firstByteNotAllowed() {
        Edge.sentence(0, "is the position, from 0, of the first byte that is not allowed at its place");
        fault(";", 0);
        fault(" ;", 1);
        fault("7", 0);
        fault("7 wait", 0);
        fault("wait;", 4);
        fault("wait  ;", 6);
        fault("wait wait", 5);
        fault("wait 1 wait 1", 7);
        fault("wait 1wait 1", 6);
        fault("wait 1;;wait 1", 7);
        fault("wait 1; ;wait 1", 8);
        fault(";wait 1", 0);
        fault("wait 1;2", 7);
        fault("rent 1;2", 6);
        fault("rent 1 ;2", 7);
        fault("rent 1 wait 1", 7);
        fault("rent 1wait 1", 6);
        fault("rent 1 2wait 1", 8);
        fault("rent 1 2 wait 1", 9);
        fault("rent 1 2 3", 9);
        fault("WAIT 1", 0);
        fault("wAIT 1", 0);
        fault("waiT 1", 0);
        fault("waitT 1", 4);
        fault("rent 1 x;zzz", 7);
        fault("wait -1", 5);
        fault("wait +1", 5);
        fault("wait 1.5", 6);
    }

    private static void digits() {
        Edge.sentence(0, "Numbers have 1 to 5 digits (007 is 7)");
        sound("wait 0", "wait 00000", "wait 99999", "wait12345", "rent 00000 99999", "buy00007 00001", "sell 12345");
        BookRental x = text("wait 007");
        Edge.is("orders()", x.orders(), 1);
        Edge.is("the day", x.count(3), 7);
        BookRental y = text("wait 00400;wait 1");
        Edge.is("five digits", y.orders(), 2);
        Edge.is("the day then", y.count(3), 401);
        Edge.sentence(0, "for a number with more than five digits its sixth one");
        fault("wait 123456", 10);
        fault("wait 000000", 10);
        fault("wait123456", 9);
        fault("wait 1234567890", 10);
        fault("wait 123456;", 10);
        fault("wait 123456 7", 10);
        fault("wait 123456x", 10);
        fault("rent 123456", 10);
        fault("rent 123456 1", 10);
        fault("rent 1 123456", 12);
        fault("rent 12345 1234567", 16);
        fault("wait 1;sell 999999", 17);
    }

    private static void blanksBetweenNumbers() {
        Edge.sentence(0, "At least one blank (32) stands between two numbers");
        sound("rent 1 2", "rent1 2", "rent 1  2", "rent 1" + " ".repeat(90) + "2");
        fault("rent 12", 7);
        fault("rent 1,2", 6);
        fault("rent 1;2", 6);
        fault("rent 1\t2", 6);
        fault("rent 1\n2", 6);
        fault("rent 1" + (char) 160 + "2", 6);
        fault("rent 1 \t2", 7);
        fault("rent 1x2", 6);
    }

    private static void blanksElsewhere() {
        Edge.sentence(0, "blanks may stand anywhere else except within words and numbers");
        sound("wait1", "wait 1", " wait1", "wait1 ", "   wait   1   ", "wait1;wait1", "wait1 ;wait1", "wait1; wait1",
            " rent 1 2 ; back1 2;buy 1  2 ;sell1 ;  wait 1 ");
        fault("wa it1", 0);
        fault("w ait1", 0);
        fault("wait 1 2", 7);
        fault("wait 1 2;wait 1", 7);
        fault("rent 1 2 2", 9);
    }

    private static void howManyNumbers() {
        Edge.sentence(0, "with two numbers for the first three, one for the others");
        for (String word : new String[] {"rent", "back", "buy"}) {
            int length = word.length();
            sound(word + " 1 1", word + " 1 1;wait 1");
            fault(word + " 1", length + 2);
            fault(word + " 1;wait 1", length + 2);
            fault(word + " 1 1 1", length + 5);
        }
        for (String word : new String[] {"sell", "wait"}) {
            sound(word + " 1", word + " 1;wait 1");
            fault(word + " 1 1", 7);
            fault(word + " ;wait 1", 5);
        }
    }

    private static void bytesAroundRanges() {
        Edge.sentence(0, "of the first byte that is not allowed at its place");
        // around blanks, digits, the semicolon and small letters, and these with the highest bit
        int[] odd = {0, 9, 10, 31, 33, '/', ':', '<', '@', 'A', 'Z', '`', '{', 127, 128, 160, 177, 187, 225, 255};
        for (int code : odd) {
            String sign = String.valueOf((char) code);
            fault(sign + "wait 1", 0);
            fault("wait" + sign + " 1", 4);
            fault("wait " + sign + "1", 5);
            fault("wait 1" + sign, 6);
            fault("wait 1 " + sign, 7);
            fault("wait 1;" + sign, 7);
            fault("buy 1" + sign + " 2", 5);
            fault("buy 1 " + sign + "2", 6);
            fault("buy 1 2" + sign, 7);
        }
    }

    private static void namesDoNotMatter() {
        Edge.sentence(0, "What the numbers name does not matter for faults");
        sound("rent 8 6", "rent 99999 99999", "back 99999 99999", "back 0 5", "buy 6 0", "buy 99999 99999", "sell 99999",
            "wait 0", "wait 401", "wait 99999");
    }

    private static void longTexts() {
        Edge.sentence(0, "Orders can be given by a text of at most 100 bytes");
        sound(" ".repeat(95) + "wait1", "wait1" + " ".repeat(95), "wait" + " ".repeat(95) + "1");
        fault("wait" + " ".repeat(96), 100);
        fault("wait1" + " ".repeat(94) + ";", 100);
        fault("wait1" + " ".repeat(94) + "x", 99);
        fault(" ".repeat(99) + "w", 99);
        fault("w".repeat(100), 0);
        fault(" ".repeat(96) + "wait", 100);
        fault(" ".repeat(90) + "wait 12345", Due.NONE);
        fault(" ".repeat(89) + "wait 123456", 99);
        Edge.told("sixteen orders and a word", () -> text("wait1;".repeat(16) + "wait"), BookRental::textFault, 100);
        BookRental x = text("wait1;".repeat(16).substring(0, 95));
        Edge.is("sixteen orders", x.orders(), 16);
        Edge.is("sixteen days", x.count(3), 16);
    }

    private static BookRental busyWith(String text) {
        BookRental x = Edge.busy();
        Due.retype(x, text);
        return x;
    }

    private static void ordersWithAFault() {
        Edge.sentence(31, "BAD_STATE if the text has a fault");
        for (String text : new String[] {"", "   ", "wait", "wait 1;", "wait 1;sell 3;bye", "wait 1;wait 000001", "sell 3 3"}) {
            Edge.told("orders() of '" + text + "'", () -> busyWith(text), BookRental::orders, Due.STATE);
        }
        Edge.told("of a new one", Edge::empty, BookRental::orders, Due.STATE);
    }

    private static void ordersNone() {
        Edge.sentence(31, "until one of them returns an error (perhaps the first one)");
        String[] firsts = {"rent 8 0", "rent 0 2", "rent 0 0", "back 8 0", "back 1 5", "back 3 0", "buy 2 1", "buy 0 0",
            "buy 0 21", "sell 8", "sell 2", "wait 0", "wait 401"};
        for (String first : firsts) {
            Edge.recorded("'" + first + "' first", () -> busyWith(first + ";wait 1"), BookRental::orders, 0);
            BookRental x = busyWith(first + ";wait 1;sell 3");
            long before = x.digest();
            Edge.is("'" + first + "' ahead of two", x.orders(), 0);
            Edge.is("'" + first + "' changes nothing", x.digest(), before);
            Edge.is("'" + first + "' is recorded", x.undo(), 3);
            Edge.is("'" + first + "' is undone", x.digest(), before);
        }
        Edge.told("a copy more than sixty", () -> fullWith("buy 0 1"), BookRental::digest, Edge.full().digest());
        Edge.recorded("a copy more than sixty", () -> fullWith("buy 0 1"), BookRental::orders, 0);
        Edge.recorded("a day more than there are", () -> lastDayWith("wait 1"), BookRental::orders, 0);
        Edge.recorded("a day less", () -> lastDayWith("sell 0;wait 1"), BookRental::orders, 0);
    }

    private static BookRental fullWith(String text) {
        BookRental x = Edge.full();
        Due.retype(x, text);
        return x;
    }

    private static BookRental lastDayWith(String text) {
        BookRental x = Edge.onDay(100000);
        Due.type(x, text);
        return x;
    }

    private static void ordersUntilAnError() {
        Edge.sentence(31, "those before it stay");
        String[] orders = {"wait 1", "sell 3", "buy 1 2", "rent 3 1", "back 1 1"};
        StringBuilder text = new StringBuilder();
        for (int done = 1; done <= orders.length; done++) {
            text.append(orders[done - 1]).append(';');
            String all = text.toString();
            BookRental stopped = busyWith(all + "sell 2;wait 9;sell 6");
            BookRental whole = busyWith(all.substring(0, all.length() - 1));
            Edge.is("stopped after " + done, stopped.orders(), done);
            Edge.is("all of " + done, whole.orders(), done);
            Edge.is("they do the same: " + done, stopped.digest(), whole.digest());
            Edge.is("one undo for " + done, stopped.undo(), 3);
            Edge.is("leads back: " + done, stopped.digest(), Edge.busy().digest());
        }
        Edge.sentence(31, "Returns how many orders were carried out without an error");
        Edge.is("one of one", busyWith("wait 1").orders(), 1);
        Edge.is("the last of three", busyWith("wait 1;wait 1;wait 0").orders(), 2);
        // the rent of one whose title the customer has already, between others that can be carried out
        Edge.is("the second of three", busyWith("wait 1;rent 0 0;wait 1").orders(), 1);
    }

    private static void same(String text, Edge.Call call) {
        BookRental x = busyWith(text);
        BookRental y = Edge.busy();
        Edge.is("'" + text + "' is carried out", x.orders(), 1);
        Edge.is("the method returns no error for '" + text + "'", call.on(y) >= 0 ? 1 : 0, 1);
        Edge.is("'" + text + "' as the method", x.digest(), y.digest());
    }

    private static void ordersAsTheMethods() {
        Edge.sentence(31, "each as its method would");
        same("rent 7 1", x -> x.rent(7, 1));
        same("rent 1 0", x -> x.rent(1, 0));
        same("back 1 2", x -> x.giveBack(1, 2));
        same("back 5 0", x -> x.giveBack(5, 0));
        same("back 1 4", x -> x.giveBack(1, 4));
        same("buy 1 3", x -> x.buy(1, 3));
        same("buy 0 20", x -> x.buy(0, 20));
        same("sell 3", x -> x.sell(3));
        same("sell 7", x -> x.sell(7));
        same("wait 1", x -> x.pass(1));
        same("wait 400", x -> x.pass(400));
        Edge.sentence(0, "rent (customer, course), back (copy, damage), buy (title, copies), sell (copy) and wait (days)");
        BookRental x = busyWith("rent 3 1;back 6 2;sell 7;buy 1 4;wait 33");
        Edge.is("all five", x.orders(), 5);
        BookRental y = Edge.busy();
        y.rent(3, 1);
        y.giveBack(6, 2);
        y.sell(7);
        y.buy(1, 4);
        y.pass(33);
        Edge.is("as the five methods", x.digest(), y.digest());
    }

    private static void ordersRecorded() {
        Edge.sentence(31, "Recorded, as one call");
        Edge.recorded("nine orders", () -> busyWith("wait 1;wait 2;wait 3;wait 4;wait 5;wait 6;wait 7;wait 8;wait 9"),
            BookRental::orders, 9);
        BookRental x = text("wait 1;wait 2;wait 3");
        for (int i = 0; i < 6; i++) {
            x.orders();
        }
        for (int left = 4; left >= 0; left--) {
            Edge.is("one undo for each", x.undo(), left);
            Edge.is("the day then", x.count(3), 6 * (left + 1));
        }
        Edge.is("of six only five", x.undo(), Due.STATE);
        Edge.sentence(0, "before each call that returns no error, even if it changes nothing");
        Edge.recorded("without an order that is carried out", () -> busyWith("wait 0"), BookRental::orders, 0);
        BookRental y = text("wait 0");
        y.orders();
        Edge.is("the first call of all", y.undo(), 0);
    }

    private static void textStays() {
        Edge.sentence(31, "The text stays");
        BookRental x = busyWith("wait 1;sell 3;wait 1");
        Edge.is("three", x.orders(), 3);
        Edge.is("once more: the copy is sold", x.orders(), 1);
        Edge.is("and again", x.orders(), 1);
        Edge.is("four days", x.count(3), 4);
        Edge.is("its fault", x.textFault(), Due.NONE);
        Edge.is("its length", x.clearText(), 20);
        BookRental y = busyWith("wait 1;bye");
        y.orders();
        Edge.is("one with a fault, too", y.clearText(), 10);
    }
}
