/** Promises 5 (addCourse), 6 (setCourse), 7 (set), 10 (course). */
public final class CoursesAndSettingsTest {
    public static void main(String[] args) {
        addCourse();
        setCourse();
        set();
        course();
        Due.end();
    }

    private static void addCourse() {
        BookRental x = new BookRental();
        Due.is("addCourse without titles", x.addCourse(0, 1, 1), Due.INDEX);
        x.addTitle(1000, 1);
        Due.is("addCourse(-1, 1, 1)", x.addCourse(-1, 1, 1), Due.INDEX);
        Due.is("BAD_INDEX ahead of BAD_VALUE", x.addCourse(1, 0, 201), Due.INDEX);
        Due.is("addCourse(0, 0, 1)", x.addCourse(0, 0, 1), Due.VALUE);
        Due.is("addCourse(0, 31, 1)", x.addCourse(0, 31, 1), Due.VALUE);
        Due.is("addCourse(0, 1, -1)", x.addCourse(0, 1, -1), Due.VALUE);
        Due.is("addCourse(0, 1, 201)", x.addCourse(0, 1, 201), Due.VALUE);
        Due.is("courses after errors", x.count(2), 0);
        Due.is("addCourse(0, 1, 0)", x.addCourse(0, 1, 0), 0);
        Due.is("addCourse(0, 30, 200)", x.addCourse(0, 30, 200), 1);
        for (int course = 2; course < 6; course++) {
            Due.is("addCourse " + course, x.addCourse(0, course, course), course);
        }
        Due.is("seventh addCourse", x.addCourse(0, 1, 1), Due.FULL);
        Due.is("BAD_VALUE ahead of FULL", x.addCourse(0, 31, 1), Due.VALUE);
        Due.is("BAD_INDEX ahead of FULL", x.addCourse(1, 1, 1), Due.INDEX);
        Due.is("courses", x.count(2), 6);
        Due.is("undo of addCourse", x.undo(), 4);
        Due.is("courses then", x.count(2), 5);
        Due.is("course(5, 0) then", x.course(5, 0), Due.INDEX);
    }

    private static void setCourse() {
        BookRental x = new BookRental();
        x.addTitle(1000, 1);
        Due.is("setCourse without courses", x.setCourse(0, 1, 1), Due.INDEX);
        x.addCourse(0, 2, 3);
        x.addCourse(0, 4, 5);
        Due.is("setCourse(-1, 1, 1)", x.setCourse(-1, 1, 1), Due.INDEX);
        Due.is("BAD_INDEX ahead of BAD_VALUE", x.setCourse(2, 0, 0), Due.INDEX);
        Due.is("setCourse(0, 0, 1)", x.setCourse(0, 0, 1), Due.VALUE);
        Due.is("setCourse(0, 31, 1)", x.setCourse(0, 31, 1), Due.VALUE);
        Due.is("setCourse(0, 1, -1)", x.setCourse(0, 1, -1), Due.VALUE);
        Due.is("setCourse(0, 1, 201)", x.setCourse(0, 1, 201), Due.VALUE);
        Due.is("least after errors", x.course(0, 1), 2);
        Due.is("students after errors", x.course(0, 2), 3);
        Due.is("setCourse(0, 30, 200)", x.setCourse(0, 30, 200), 3);
        Due.is("setCourse(0, 1, 0)", x.setCourse(0, 1, 0), 200);
        Due.is("least then", x.course(0, 1), 1);
        Due.is("students then", x.course(0, 2), 0);
        Due.is("the other's least", x.course(1, 1), 4);
        Due.is("the other's students", x.course(1, 2), 5);
        Due.is("undo of setCourse", x.undo(), 4);
        Due.is("least before", x.course(0, 1), 30);
        Due.is("students before", x.course(0, 2), 200);
    }

    private static void set() {
        BookRental x = new BookRental();
        int[] low = {10, 0, 1, 0};
        int[] high = {200, 200, 60, 50};
        int[] first = {100, 25, 30, 20};
        Due.is("set(-1, 10)", x.set(-1, 10), Due.INDEX);
        Due.is("set(4, 10)", x.set(4, 10), Due.INDEX);
        Due.is("BAD_INDEX ahead of BAD_VALUE", x.set(4, -1), Due.INDEX);
        for (int setting = 0; setting < 4; setting++) {
            String name = "setting " + setting;
            Due.is(name + " too low", x.set(setting, low[setting] - 1), Due.VALUE);
            Due.is(name + " too high", x.set(setting, high[setting] + 1), Due.VALUE);
            Due.is(name + " after errors", x.count(10 + setting), first[setting]);
            Due.is(name + " lowest", x.set(setting, low[setting]), first[setting]);
            Due.is(name + " highest", x.set(setting, high[setting]), low[setting]);
            Due.is(name + " then", x.count(10 + setting), high[setting]);
        }
        Due.is("undo of set", x.undo(), 4);
        Due.is("setting 3 before", x.count(13), 0);
        nothingIsLostBySetting();
    }

    private static void nothingIsLostBySetting() {
        BookRental x = new BookRental();
        x.addTitle(1000, 1);
        x.addCourse(0, 1, 1);
        x.buy(0, 1);
        x.set(0, 10);
        x.rent(0, 0);
        x.set(0, 200);
        Due.is("a rented copy keeps its day", x.copy(0, 5), 10);
        x.pass(30);
        Due.is("late by 20", x.copy(0, 10), 20);
        Due.is("set(2, 1)", x.set(2, 1), 30);
        Due.is("still rented", x.copy(0, 3), 1);
        Due.is("lost with the next day", x.pass(1), 1);
    }

    private static void course() {
        BookRental x = new BookRental();
        x.addTitle(1000, 3);
        x.addTitle(1000, 3);
        x.addCourse(1, 3, 17);
        x.addCourse(1, 4, 0);
        Due.is("course(-1, 0)", x.course(-1, 0), Due.INDEX);
        Due.is("BAD_INDEX ahead of BAD_VALUE", x.course(2, 4), Due.INDEX);
        Due.is("course(0, -1)", x.course(0, -1), Due.VALUE);
        Due.is("course(0, 4)", x.course(0, 4), Due.VALUE);
        x.buy(0, 5);
        x.buy(1, 4);
        x.buyBack(1, 2, 0);
        x.newEdition(1);
        x.buy(1, 2);
        Due.is("its title", x.course(0, 0), 1);
        Due.is("its least edition", x.course(0, 1), 3);
        Due.is("its students", x.course(0, 2), 17);
        Due.is("what it takes of editions 3 and 4", x.course(0, 3), 6);
        Due.is("what takes only edition 4", x.course(1, 3), 2);
        x.rent(0, 0);
        x.sell(6);
        Due.is("only what is in stock", x.course(0, 3), 4);
        x.shelf(1, 3);
        Due.is("not what is missing", x.course(0, 3), 3);
        x.setCourse(0, 5, 17);
        Due.is("none of edition 5", x.course(0, 3), 0);
        x.addCourse(0, 3, 1);
        Due.is("of the other title", x.course(2, 3), 5);
        Due.is("the first one, too", x.next(2), 0);
    }
}
