/** The edges of promises 5 (addCourse), 6 (setCourse), 7 (set), 10 (course). */
public final class CourseEdgesTest {
    public static void main(String[] args) {
        addCourseIndex();
        addCourseRanges();
        addCourseFull();
        setCourseIndex();
        setCourseRanges();
        setIndex();
        setRanges();
        setLosesNothing();
        courseIndex();
        courseRange();
        courseTakes();
        Due.end();
    }

    private static BookRental courses(int number) {
        BookRental x = new BookRental();
        x.addTitle(1000, 5);
        for (int course = 0; course < number; course++) {
            x.addCourse(0, 1 + course, course);
        }
        return x;
    }

    private static void addCourseIndex() {
        Edge.sentence(5, "BAD_INDEX if there is no such title");
        Edge.told("no title at all", Edge::empty, x -> x.addCourse(0, 1, 0), Due.INDEX);
        Edge.range("title", Edge::busy, (x, v) -> x.addCourse(v, 1, 0), 0, 1, Due.INDEX);
        Edge.sentence(0, "If several apply to a call, the first one in this order is returned");
        Edge.told("no such title, bad least edition", Edge::busy, x -> x.addCourse(2, 0, 0), Due.INDEX);
        Edge.told("no such title, bad students", Edge::busy, x -> x.addCourse(2, 1, 201), Due.INDEX);
        Edge.told("no such title, no room", Edge::full, x -> x.addCourse(6, 1, 0), Due.INDEX);
        Edge.told("bad least edition, no room", Edge::full, x -> x.addCourse(5, 31, 0), Due.VALUE);
        Edge.told("bad students, no room", Edge::full, x -> x.addCourse(5, 1, -1), Due.VALUE);
    }

    private static void addCourseRanges() {
        Edge.sentence(5, "`least`: 1 to 30");
        Edge.range("least", Edge::busy, (x, v) -> x.addCourse(1, v, 7), 1, 30, Due.VALUE);
        Edge.sentence(5, "`students`: 0 to 200");
        Edge.range("students", Edge::busy, (x, v) -> x.addCourse(1, 7, v), 0, 200, Due.VALUE);
        Edge.sentence(5, "BAD_VALUE if another argument is out of range");
        Edge.told("both", Edge::busy, x -> x.addCourse(1, 31, 201), Due.VALUE);
        BookRental x = Edge.busy();
        x.addCourse(1, 1, 200);
        x.addCourse(0, 30, 0);
        Edge.sentence(10, "0 its title, 1 its least edition, 2 its students");
        int[][] due = {{1, 1, 200}, {0, 30, 0}};
        for (int course = 0; course < 2; course++) {
            for (int what = 0; what < 3; what++) {
                Edge.is("course(" + (2 + course) + ", " + what + ")", x.course(2 + course, what), due[course][what]);
            }
        }
    }

    private static void addCourseFull() {
        Edge.sentence(0, "There are at most 6 courses, numbered from 0");
        for (int courses = 0; courses < 6; courses++) {
            int number = courses;
            Edge.recorded("course " + number, () -> courses(number), x -> x.addCourse(0, 9, 9), number);
        }
        Edge.sentence(5, "FULL if there are 6 courses");
        Edge.told("a seventh course", () -> courses(6), x -> x.addCourse(0, 9, 9), Due.FULL);
        Edge.sentence(5, "Returns its number");
        BookRental x = Edge.titles(5);
        x.addCourse(0, 30, 200);
        x.undo();
        Edge.is("the number of an undone one is taken again", x.addCourse(4, 3, 7), 5);
        Edge.is("with its own title", x.course(5, 0), 4);
        Edge.is("with its own least edition", x.course(5, 1), 3);
        Edge.is("with its own students", x.course(5, 2), 7);
    }

    private static void setCourseIndex() {
        Edge.sentence(6, "BAD_INDEX if there is no such course");
        Edge.told("no course at all", () -> courses(0), x -> x.setCourse(0, 1, 1), Due.INDEX);
        Edge.range("course", Edge::busy, (x, v) -> x.setCourse(v, 1, 1), 0, 1, Due.INDEX);
        Edge.range("course of six", Edge::full, (x, v) -> x.setCourse(v, 1, 1), 0, 5, Due.INDEX);
        Edge.sentence(0, "If several apply to a call, the first one in this order is returned");
        Edge.told("no such course, bad least edition", Edge::busy, x -> x.setCourse(2, 31, 1), Due.INDEX);
        Edge.told("no such course, bad students", Edge::busy, x -> x.setCourse(2, 1, 201), Due.INDEX);
    }

    private static void setCourseRanges() {
        Edge.sentence(6, "`least`: 1 to 30");
        Edge.range("least", Edge::busy, (x, v) -> x.setCourse(1, v, 7), 1, 30, Due.VALUE);
        Edge.sentence(6, "`students`: 0 to 200");
        Edge.range("students", Edge::busy, (x, v) -> x.setCourse(1, 7, v), 0, 200, Due.VALUE);
        Edge.sentence(6, "BAD_VALUE if another argument is out of range");
        Edge.told("both", Edge::busy, x -> x.setCourse(1, 0, -1), Due.VALUE);
        Edge.sentence(6, "Returns the previous number of students");
        Edge.recorded("to the lowest", Edge::busy, x -> x.setCourse(1, 1, 0), 3);
        Edge.recorded("to the highest", Edge::busy, x -> x.setCourse(1, 30, 200), 3);
        BookRental x = Edge.busy();
        x.setCourse(1, 30, 200);
        Edge.is("from the highest", x.setCourse(1, 1, 0), 200);
        Edge.is("from the lowest", x.setCourse(1, 1, 0), 0);
        Edge.is("its least edition", x.course(1, 1), 1);
        Edge.is("its title", x.course(1, 0), 1);
        Edge.is("the other's students", x.course(0, 2), 30);
        Edge.is("the other's least edition", x.course(0, 1), 4);
        Edge.sentence(0, "before each call that returns no error, even if it changes nothing");
        Edge.recorded("the same again", Edge::busy, y -> y.setCourse(1, 5, 3), 3);
    }

    private static void setIndex() {
        Edge.sentence(7, "BAD_INDEX if there is no such setting");
        // 20 is in the range of each setting
        Edge.range("setting", Edge::busy, (x, v) -> x.set(v, 20), 0, 3, Due.INDEX);
        Edge.sentence(0, "If several apply to a call, the first one in this order is returned");
        Edge.told("no such setting, bad value", Edge::busy, x -> x.set(4, 201), Due.INDEX);
        Edge.told("no such setting, bad value", Edge::busy, x -> x.set(-1, -1), Due.INDEX);
    }

    private static void setRanges() {
        String[] words = {"0 the days of a rent (10 to 200; 100)", "1 the fee for a late day (0 to 200; 25)",
            "2 the late days behind which a copy is lost (1 to 60; 30)",
            "3 the cut for each edition behind, in hundredths (0 to 50; 20)"};
        int[] low = {10, 0, 1, 0};
        int[] high = {200, 200, 60, 50};
        int[] first = {100, 25, 30, 20};
        for (int i = 0; i < 4; i++) {
            int setting = i;
            Edge.sentence(0, words[i]);
            Edge.is("the first value", new BookRental().count(10 + i), first[i]);
            Edge.range("value", Edge::busy, (x, v) -> x.set(setting, v), low[i], high[i], Due.VALUE);
            Edge.sentence(7, "Returns the previous value");
            Edge.recorded("to the lowest", Edge::busy, x -> x.set(setting, low[setting]), first[i]);
            Edge.recorded("to the highest", Edge::busy, x -> x.set(setting, high[setting]), first[i]);
            Edge.recorded("to the same", Edge::busy, x -> x.set(setting, first[setting]), first[i]);
            BookRental x = new BookRental();
            x.set(i, low[i]);
            Edge.is("from the lowest", x.set(i, high[i]), low[i]);
            for (int other = 0; other < 4; other++) {
                Edge.is("setting " + other + " then", x.count(10 + other), other == i ? high[i] : first[other]);
            }
        }
    }

    private static void setLosesNothing() {
        Edge.sentence(7, "(nothing becomes lost by that, until days pass)");
        BookRental x = Edge.late(29);
        Edge.is("set(2, 1)", x.set(2, 1), 30);
        Edge.is("it is rented still", x.copy(0, 3), 1);
        Edge.is("none is lost", x.count(7), 0);
        Edge.is("nothing is charged", x.customer(3, 2), 300);
        Edge.is("it can be given back", x.charge(0, 0, 2), 725);
        Edge.is("one day, and it is lost", x.pass(1), 1);
        Edge.sentence(0, "It is due as many days later as a rent has");
        BookRental y = Edge.shop(3, 9);
        y.set(0, 10);
        y.rent(0, 0);
        y.set(0, 200);
        y.rent(1, 0);
        Edge.is("the setting as it was then, the lowest", y.copy(0, 5), 10);
        Edge.is("the setting as it is, the highest", y.copy(1, 5), 200);
        y.pass(7);
        y.rent(2, 0);
        Edge.is("from this day on", y.copy(2, 5), 207);
    }

    private static void courseIndex() {
        Edge.sentence(10, "BAD_INDEX if there is no such course");
        Edge.told("no course at all", () -> courses(0), x -> x.course(0, 0), Due.INDEX);
        Edge.range("course", Edge::busy, (x, v) -> x.course(v, 0), 0, 1, Due.INDEX);
        Edge.range("course of six", Edge::full, (x, v) -> x.course(v, 0), 0, 5, Due.INDEX);
        Edge.sentence(0, "If several apply to a call, the first one in this order is returned");
        Edge.told("no such course, bad property", Edge::busy, x -> x.course(2, 4), Due.INDEX);
    }

    private static void courseRange() {
        Edge.sentence(10, "BAD_VALUE if what is out of range");
        Edge.range("what", Edge::busy, (x, v) -> x.course(1, v), 0, 3, Due.VALUE);
    }

    private static void courseTakes() {
        Edge.sentence(10, "3 how many copies in stock it takes");
        Edge.told("of title 0, not lost, rented, sold or missing", Edge::busy, x -> x.course(0, 3), 1);
        Edge.told("of title 1", Edge::busy, x -> x.course(1, 3), 2);
        Edge.told("of none", () -> courses(1), x -> x.course(0, 3), 0);
        Edge.told("of sixty", () -> Edge.shop(60, 0), x -> x.course(0, 3), 60);
        Edge.sentence(0, "a course needs a title, of an edition that is at least its least one, 1 to 30");
        BookRental x = Edge.busy();
        x.setCourse(1, 6, 3);
        Edge.is("just the least one", x.course(1, 3), 2);
        x.setCourse(1, 7, 3);
        Edge.is("one below it", x.course(1, 3), 0);
        x.newEdition(1);
        x.buy(1, 1);
        Edge.is("the next one", x.course(1, 3), 1);
        x.setCourse(1, 1, 3);
        Edge.is("from the first edition on", x.course(1, 3), 3);
        x.buyBack(1, 30, 0);
        x.setCourse(1, 30, 3);
        Edge.is("the last edition", x.course(1, 3), 1);
    }
}
