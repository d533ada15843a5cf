import java.util.Random;

/** All promises: runs of 512 random calls, each answer beside that of the reference. The seed is fixed. */
public final class RandomRunsTest {
    private static final int RUNS = 1500;
    private static final int CALLS = 512;
    private static final int METHODS = 31;
    private static final int[] ODD = {Integer.MIN_VALUE, Integer.MAX_VALUE, -2, -1, 0, 1, 5, 6, 7, 8, 30, 31, 59, 60, 61,
        99, 100, 200, 201, 255, 256, 400, 401, 20000, 20001, 99999, 1 << 16, 1 << 31};

    private final Random random;
    private final BookRental x = new BookRental();
    private final Reference y = new Reference();
    private int seed;
    /** How high editions go in this run: with few of them, copies and courses meet more often. */
    private final int editions;

    private RandomRunsTest(int seed) {
        this.seed = seed;
        random = new Random(seed);
        editions = random.nextBoolean() ? 30 : 5;
    }

    public static void main(String[] args) {
        for (int seed = 0; seed < RUNS; seed++) {
            new RandomRunsTest(seed).run();
        }
        Due.end();
    }

    private void run() {
        for (int i = 0; i < CALLS; i++) {
            int method = random.nextInt(100) < 60 ? often() : random.nextInt(METHODS);
            call(i < 12 ? early() : method, i);
            if (i % 16 == 15) {
                due(i, "digest()", x.digest(), y.digest());
            }
        }
    }

    private int early() {
        int[] methods = {0, 0, 3, 3, 12, 14};
        return methods[random.nextInt(methods.length)];
    }

    private int often() {
        int[] methods = {16, 16, 16, 16, 18, 18, 18, 20, 20, 12, 14, 15, 21, 30, 27, 19, 13};
        return methods[random.nextInt(methods.length)];
    }

    private void due(int i, String call, long got, long want) {
        Due.is("run " + seed + ", call " + i + ", " + call, got, want);
    }

    /** Mostly in the range, now and then just outside it or far away. */
    private int number(int low, int high) {
        int chance = random.nextInt(60);
        if (chance == 0) {
            return ODD[random.nextInt(ODD.length)];
        }
        if (chance == 1) {
            return low - 1;
        }
        if (chance == 2) {
            return high + 1;
        }
        if (chance == 3) {
            return low;
        }
        if (chance == 4) {
            return high;
        }
        return low + random.nextInt(Math.max(1, high - low + 1));
    }

    private int someTitle() {
        return number(0, y.count(0) - 1);
    }

    private int someCourse() {
        return number(0, y.count(2) - 1);
    }

    private int someCopy() {
        int copy = number(0, y.count(1) - 1);
        // a rented one is looked for, so that most calls about rents are possible
        for (int i = 0; i < 20 && y.copy(copy, 3) != 1 && random.nextInt(12) != 0; i++) {
            copy = number(0, y.count(1) - 1);
        }
        return copy;
    }

    private int someEdition() {
        return number(1, editions);
    }

    private int someDays() {
        return random.nextInt(3) == 0 ? number(1, 400) : number(1, 45);
    }

    private void call(int method, int i) {
        if (method < 16) {
            firstHalf(method, i);
        } else {
            secondHalf(method, i);
        }
    }

    private void firstHalf(int method, int i) {
        switch (method) {
            case 0 -> {
                int a = number(100, random.nextBoolean() ? 300 : 20000), b = someEdition();
                due(i, "addTitle(" + a + ", " + b + ")", x.addTitle(a, b), y.addTitle(a, b));
            }
            case 1 -> {
                int a = someTitle(), b = number(100, 20000);
                due(i, "setPrice(" + a + ", " + b + ")", x.setPrice(a, b), y.setPrice(a, b));
            }
            case 2 -> {
                int a = someTitle();
                due(i, "newEdition(" + a + ")", x.newEdition(a), y.newEdition(a));
            }
            case 3 -> {
                int a = someTitle(), b = someEdition(), c = number(0, random.nextBoolean() ? 12 : 200);
                due(i, "addCourse(" + a + ", " + b + ", " + c + ")", x.addCourse(a, b, c), y.addCourse(a, b, c));
            }
            case 4 -> {
                int a = someCourse(), b = someEdition(), c = number(0, random.nextBoolean() ? 12 : 200);
                due(i, "setCourse(" + a + ", " + b + ", " + c + ")", x.setCourse(a, b, c), y.setCourse(a, b, c));
            }
            case 5 -> {
                int a = number(0, 3), b = number(0, random.nextBoolean() ? 50 : 200);
                due(i, "set(" + a + ", " + b + ")", x.set(a, b), y.set(a, b));
            }
            case 6 -> {
                int a = number(0, 13);
                due(i, "count(" + a + ")", x.count(a), y.count(a));
            }
            case 7 -> {
                int a = someTitle(), b = number(0, 6);
                due(i, "title(" + a + ", " + b + ")", x.title(a, b), y.title(a, b));
            }
            case 8 -> {
                int a = someCourse(), b = number(0, 3);
                due(i, "course(" + a + ", " + b + ")", x.course(a, b), y.course(a, b));
            }
            case 9, 10 -> {
                int a = someCopy(), b = number(0, 10);
                due(i, "copy(" + a + ", " + b + ")", x.copy(a, b), y.copy(a, b));
            }
            case 11 -> {
                int a = number(0, 7);
                due(i, "book(" + a + ")", x.book(a), y.book(a));
            }
            case 12 -> {
                int a = someTitle(), b = number(1, random.nextInt(4) == 0 ? 20 : 4);
                due(i, "buy(" + a + ", " + b + ")", x.buy(a, b), y.buy(a, b));
            }
            case 13 -> {
                int a = someTitle(), b = someEdition(), c = number(0, 4);
                due(i, "offer(" + a + ", " + b + ", " + c + ")", x.offer(a, b, c), y.offer(a, b, c));
            }
            case 14 -> {
                int a = someTitle(), b = someEdition(), c = number(0, 4);
                due(i, "buyBack(" + a + ", " + b + ", " + c + ")", x.buyBack(a, b, c), y.buyBack(a, b, c));
            }
            default -> {
                int a = random.nextInt(3) == 0 ? number(0, y.count(1) - 1) : -1;
                due(i, "sell(" + a + ")", x.sell(a), y.sell(a));
            }
        }
    }

    private void secondHalf(int method, int i) {
        switch (method) {
            case 16 -> {
                int a = number(0, 7), b = someCourse();
                due(i, "rent(" + a + ", " + b + ")", x.rent(a, b), y.rent(a, b));
            }
            case 17 -> {
                int a = someCourse();
                due(i, "next(" + a + ")", x.next(a), y.next(a));
            }
            case 18 -> {
                int a = someCopy(), b = number(0, random.nextBoolean() ? 1 : 4);
                due(i, "giveBack(" + a + ", " + b + ")", x.giveBack(a, b), y.giveBack(a, b));
            }
            case 19 -> {
                int a = someCopy(), b = number(0, 4), c = number(0, 2);
                due(i, "charge(" + a + ", " + b + ", " + c + ")", x.charge(a, b, c), y.charge(a, b, c));
            }
            case 20 -> {
                int a = someDays();
                due(i, "pass(" + a + ")", x.pass(a), y.pass(a));
            }
            case 21 -> {
                int a = someTitle(), b = number(0, 1 + Math.max(0, y.title(a, 6) + 2));
                due(i, "shelf(" + a + ", " + b + ")", x.shelf(a, b), y.shelf(a, b));
            }
            case 22 -> {
                int a = number(0, 7), b = number(0, 2);
                due(i, "customer(" + a + ", " + b + ")", x.customer(a, b), y.customer(a, b));
            }
            case 23 -> {
                int a = someDays();
                due(i, "lostIn(" + a + ")", x.lostIn(a), y.lostIn(a));
            }
            case 24 -> {
                int a = someTitle();
                due(i, "agingOf(" + a + ")", x.agingOf(a), y.agingOf(a));
            }
            case 25 -> due(i, "served()", x.served(), y.served());
            case 26 -> due(i, "clearText()", x.clearText(), y.clearText());
            case 27 -> due(i, "undo()", x.undo(), y.undo());
            case 28 -> {
                int a = number(0, 255);
                due(i, "type(" + a + ")", x.type(a), y.type(a));
            }
            case 29 -> due(i, "textFault()", x.textFault(), y.textFault());
            default -> {
                String text = someText();
                if (random.nextInt(4) != 0) {
                    due(i, "clearText()", x.clearText(), y.clearText());
                }
                for (int k = 0; k < text.length(); k++) {
                    due(i, "type " + k + " of " + text, x.type(text.charAt(k)), y.type(text.charAt(k)));
                }
                due(i, "textFault() of " + text, x.textFault(), y.textFault());
                due(i, "orders() of " + text, x.orders(), y.orders());
            }
        }
    }

    private String someText() {
        StringBuilder text = new StringBuilder();
        int orders = 1 + random.nextInt(5);
        for (int i = 0; i < orders; i++) {
            text.append(i == 0 ? "" : ";").append(someOrder());
        }
        for (int flaws = random.nextInt(3); flaws > 1; flaws--) {
            spoil(text);
        }
        return text.toString();
    }

    private String someOrder() {
        String gap = " ".repeat(1 + random.nextInt(2));
        String loose = " ".repeat(random.nextInt(2));
        switch (random.nextInt(5)) {
            case 0: return loose + "rent" + loose + random.nextInt(8) + gap + Math.max(0, someCourse() % 99999);
            case 1: return "back" + gap + Math.max(0, someCopy() % 99999) + gap + random.nextInt(5) + loose;
            case 2: return "buy" + loose + Math.max(0, someTitle() % 99999) + gap + "0" + (1 + random.nextInt(3));
            case 3: return loose + "sell" + loose + Math.max(0, number(0, y.count(1) - 1) % 99999);
            default: return "wait" + gap + "000".substring(random.nextInt(4)) + random.nextInt(60);
        }
    }

    private void spoil(StringBuilder text) {
        int at = random.nextInt(text.length());
        String signs = "; 0a9z\0\u00ffA";
        switch (random.nextInt(4)) {
            case 0 -> text.deleteCharAt(at);
            case 1 -> text.insert(at, signs.charAt(random.nextInt(signs.length())));
            case 2 -> text.setCharAt(at, signs.charAt(random.nextInt(signs.length())));
            default -> text.setLength(at);
        }
    }
}
