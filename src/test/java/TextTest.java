/** Promises 28 (type), 29 (clearText), 30 (textFault), 31 (orders). */
public final class TextTest {
    public static void main(String[] args) {
        typeAndClear();
        texts();
        faults();
        otherBytes();
        longTexts();
        orders();
        ordersWithErrors();
        Due.end();
    }

    private static void typeAndClear() {
        BookRental x = new BookRental();
        Due.is("type(-1)", x.type(-1), Due.VALUE);
        Due.is("type(256)", x.type(256), Due.VALUE);
        Due.is("type(min)", x.type(Integer.MIN_VALUE), Due.VALUE);
        Due.is("clearText() of nothing", x.clearText(), 0);
        Due.is("type(0)", x.type(0), 1);
        Due.is("type(255)", x.type(255), 2);
        for (int length = 3; length <= 100; length++) {
            Due.is("type " + length, x.type(' '), length);
        }
        Due.is("type 101", x.type(' '), Due.FULL);
        Due.is("BAD_VALUE ahead of FULL", x.type(256), Due.VALUE);
        Due.is("clearText()", x.clearText(), 100);
        Due.is("clearText() again", x.clearText(), 0);
        Due.is("type after it", x.type(65), 1);
        Due.is("nothing is recorded", x.undo(), Due.STATE);
    }

    private static void texts() {
        sound("rent 1 2");
        sound("back 1 2");
        sound("buy 1 2");
        sound("sell 1");
        sound("wait 1");
        sound("wait1");
        sound("  wait   00001  ");
        sound("buy0 0");
        sound("buy   99999    99999  ;sell7;  rent  8 9;back 007 1 ; wait 3");
        sound("sell 1;sell 1");
        sound("sell1;sell1;sell1;sell1;sell1;sell1;sell1;sell1;sell1;sell1;sell1;sell1;sell1;sell1;sell1;sell1;sel".substring(0, 95));
    }

    private static void faults() {
        fault("", 0);
        fault("   ", 3);
        fault("rent", 4);
        fault("ren", 0);
        fault("  ren", 2);
        fault("  ren  ", 2);
        fault("rents 1 2", 0);
        fault("ren t 1 2", 0);
        fault("rentbuy 1 2", 0);
        fault("Rent 1 2", 0);
        fault("renT 1 2", 0);
        fault("1", 0);
        fault(";", 0);
        fault(" ; ", 1);
        fault("rent rent", 5);
        fault("rent;", 4);
        fault("rent ;", 5);
        fault("rent   ", 7);
        fault("rent 1", 6);
        fault("rent 1  ", 8);
        fault("rent 1;", 6);
        fault("rent 1 ;", 7);
        fault("rent 1a", 6);
        fault("rent 1 a", 7);
        fault("rent 12345", 10);
        fault("rent 123456", 10);
        fault("rent 123456 7", 10);
        fault("rent 1 1234567", 12);
        fault("rent 1 2 3", 9);
        fault("rent 1 2 ,", 9);
        fault("rent 1 2,", 8);
        fault("rent 1 2x", 8);
        fault("rent 1 2 x", 9);
        fault("rent -1 2", 5);
        fault("rent 1,2", 6);
        fault("back 1", 6);
        fault("buy 1", 5);
        fault("buy 12", 6);
        fault("sell", 4);
        fault("sell ", 5);
        fault("sell 1 2", 7);
        fault("wait 1 2", 7);
        fault("wait 000001", 10);
        fault("wait 1;", 7);
        fault("wait 1; ", 8);
        fault("wait 1 ;;", 8);
        fault("wait 1;1", 7);
        fault("wait 1;wai", 7);
        fault("wait 1;wait 2;waiting 3", 14);
        fault("wait 1;wait 2 wait", 14);
        fault("wait 1 000", 7);
        fault("waits", 0);
        fault("waitz 1", 0);
        fault("await 1", 0);
        fault("waita 1", 0);
        fault("buys 1 2", 0);
        fault("bacc 1 2", 0);
        fault("selk 1", 0);
        fault("bus 1 2", 0);
        fault("waiu 1", 0);
        fault("xent 1 2", 0);
    }

    private static void otherBytes() {
        int[] odd = {0, 9, 10, 13, 31, 33, 44, 46, 47, 58, 64, 65, 90, 91, 96, 123, 127, 128, 160, 255};
        for (int i = 0; i < odd.length; i++) {
            String sign = String.valueOf((char) odd[i]);
            fault(sign, 0);
            fault("wait" + sign + "1", wordEnds(odd[i]) ? 4 : 0);
            fault("wait 1" + sign, 6);
            fault("buy 1" + sign + "2", 5);
            fault("buy 1 " + sign + "2", 6);
        }
    }

    private static boolean wordEnds(int code) {
        return code < 'a' || code > 'z';
    }

    private static void longTexts() {
        fault(" ".repeat(100), 100);
        sound(" ".repeat(94) + "wait 1");
        sound("wait 1" + " ".repeat(94));
        fault("wait 1" + " ".repeat(93) + ";", 100);
        fault("wait" + " ".repeat(96), 100);
        fault("wait 1" + " ".repeat(93) + "x", 99);
        fault("a".repeat(100), 0);
        fault("wait " + "1".repeat(95), 10);
        fault("wait1;".repeat(16) + "wait", 100);
        fault("wait1;".repeat(16), 96);
    }

    private static void sound(String text) {
        fault(text, Due.NONE);
    }

    private static void fault(String text, int due) {
        BookRental x = new BookRental();
        Due.type(x, text);
        Due.is("textFault() of \"" + text + "\"", x.textFault(), due);
        Due.is("the same again", x.textFault(), due);
        boolean isSound = due == Due.NONE;
        Due.isTrue("orders() of \"" + text + "\"", isSound ? x.orders() >= 0 : x.orders() == Due.STATE);
        Due.is("recorded for \"" + text + "\"", x.undo(), isSound ? 0 : Due.STATE);
        Due.is("the text stays", x.clearText(), text.length());
    }

    private static void orders() {
        BookRental x = new BookRental();
        x.addTitle(1000, 1);
        x.addTitle(1000, 1);
        x.addCourse(1, 1, 9);
        Due.type(x, " buy 1 3 ; rent 007 0;wait 00105;back 0 2; sell2 ");
        Due.is("all five", x.orders(), 5);
        Due.is("bought", x.count(1), 3);
        Due.is("their title", x.copy(0, 0), 1);
        Due.is("rented and back", x.customer(7, 2), 300 + 125 + 200);
        Due.is("damaged", x.copy(0, 2), 2);
        Due.is("the day", x.count(3), 105);
        Due.is("sold", x.copy(2, 3), 2);
        Due.is("recorded as one call", x.undo(), 3);
        Due.is("all is undone", x.count(1), 0);
        Due.is("the day too", x.count(3), 0);
        Due.is("the text is there", x.orders(), 5);
        Due.is("sold again", x.copy(2, 3), 2);
        Due.retype(x, "wait1;".repeat(16) + "   ");
        Due.is("a fault at the end", x.orders(), Due.STATE);
        Due.retype(x, "wait1;".repeat(15) + "wait1");
        Due.is("sixteen orders", x.orders(), 16);
        Due.is("sixteen days", x.count(3), 121);
        Due.is("undo of sixteen", x.undo(), 4);
        Due.is("days then", x.count(3), 105);
        Due.retype(x, "rent 2 0");
        Due.is("customer first, then course", x.orders(), 1);
        Due.is("renter", x.copy(0, 4), 2);
        Due.retype(x, "back 0 1");
        Due.is("copy first, then damage", x.orders(), 1);
        Due.is("grade", x.copy(0, 2), 3);
    }

    private static void ordersWithErrors() {
        BookRental x = new BookRental();
        x.addTitle(1000, 1);
        Due.type(x, "buy 0 2;sell 5;wait 9");
        Due.is("until an error", x.orders(), 1);
        Due.is("those before it stay", x.count(1), 2);
        Due.is("none behind it", x.count(3), 0);
        Due.is("undo of it", x.undo(), 1);
        Due.is("nothing is bought", x.count(1), 0);
        Due.retype(x, "wait 0;buy 0 2");
        Due.is("the first one returns an error", x.orders(), 0);
        Due.is("nothing else", x.count(1), 0);
        Due.is("it is recorded", x.undo(), 1);
        Due.retype(x, "rent 8 0");
        Due.is("no such customer", x.orders(), 0);
        Due.retype(x, "rent 0 99999");
        Due.is("no such course", x.orders(), 0);
        Due.retype(x, "back 0 5");
        Due.is("no such copy", x.orders(), 0);
        Due.retype(x, "buy 0 21");
        Due.is("too many copies", x.orders(), 0);
        Due.retype(x, "wait 401");
        Due.is("too many days", x.orders(), 0);
        Due.retype(x, "wait 400;wait 400;wait 401;wait 400");
        Due.is("two of four", x.orders(), 2);
        Due.is("the day", x.count(3), 800);
    }
}
