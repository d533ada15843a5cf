import java.util.ArrayDeque;
import java.util.ArrayList;
import java.util.Arrays;
import java.util.Deque;
import java.util.HashMap;
import java.util.List;
import java.util.Map;

/**
 * The document once more, written another way than the class: objects in lists, a history of copies
 * of everything, a text cut into tokens, a matching by paths. For the random runs.
 */
final class Reference {
    private static final int NONE = -1, BAD_INDEX = -2, BAD_VALUE = -3, BAD_STATE = -4, FULL = -5;

    private static final class Title {
        int price, current;
    }

    private static final class Course {
        int title, least, students;
    }

    private static final class Copy {
        int title, edition, grade, state, renter = NONE, due = NONE;
    }

    private static final class World {
        int day;
        int[] settings = {100, 25, 30, 20};
        int[] books = new int[7];
        int[] charged = new int[8];
        List<Title> titles = new ArrayList<>();
        List<Course> courses = new ArrayList<>();
        List<Copy> copies = new ArrayList<>();

        World twin() {
            World w = new World();
            w.day = day;
            w.settings = settings.clone();
            w.books = books.clone();
            w.charged = charged.clone();
            for (Title t : titles) {
                Title n = new Title();
                n.price = t.price;
                n.current = t.current;
                w.titles.add(n);
            }
            for (Course c : courses) {
                Course n = new Course();
                n.title = c.title;
                n.least = c.least;
                n.students = c.students;
                w.courses.add(n);
            }
            for (Copy c : copies) {
                Copy n = new Copy();
                n.title = c.title;
                n.edition = c.edition;
                n.grade = c.grade;
                n.state = c.state;
                n.renter = c.renter;
                n.due = c.due;
                w.copies.add(n);
            }
            return w;
        }
    }

    private World w = new World();
    private final Deque<World> past = new ArrayDeque<>();
    private boolean recording = true;
    private StringBuilder text = new StringBuilder();

    private void record() {
        if (!recording) {
            return;
        }
        past.addLast(w.twin());
        if (past.size() > 5) {
            past.removeFirst();
        }
    }

    private static boolean out(int v, int low, int high) {
        return v < low || v > high;
    }

    private boolean noTitle(int t) {
        return out(t, 0, w.titles.size() - 1);
    }

    private boolean noCourse(int c) {
        return out(c, 0, w.courses.size() - 1);
    }

    private boolean noCopy(int c) {
        return out(c, 0, w.copies.size() - 1);
    }

    int addTitle(int price, int edition) {
        if (out(price, 100, 20000) || out(edition, 1, 30)) return BAD_VALUE;
        if (w.titles.size() == 6) return FULL;
        record();
        Title t = new Title();
        t.price = price;
        t.current = edition;
        w.titles.add(t);
        return w.titles.indexOf(t);
    }

    int setPrice(int title, int price) {
        if (noTitle(title)) return BAD_INDEX;
        if (out(price, 100, 20000)) return BAD_VALUE;
        record();
        int old = w.titles.get(title).price;
        w.titles.get(title).price = price;
        return old;
    }

    int newEdition(int title) {
        if (noTitle(title)) return BAD_INDEX;
        if (w.titles.get(title).current == 30) return FULL;
        record();
        return ++w.titles.get(title).current;
    }

    int addCourse(int title, int least, int students) {
        if (noTitle(title)) return BAD_INDEX;
        if (out(least, 1, 30) || out(students, 0, 200)) return BAD_VALUE;
        if (w.courses.size() == 6) return FULL;
        record();
        Course c = new Course();
        c.title = title;
        c.least = least;
        c.students = students;
        w.courses.add(c);
        return w.courses.indexOf(c);
    }

    int setCourse(int course, int least, int students) {
        if (noCourse(course)) return BAD_INDEX;
        if (out(least, 1, 30) || out(students, 0, 200)) return BAD_VALUE;
        record();
        Course c = w.courses.get(course);
        int old = c.students;
        c.least = least;
        c.students = students;
        return old;
    }

    int set(int setting, int value) {
        int[][] ranges = {{10, 200}, {0, 200}, {1, 60}, {0, 50}};
        if (out(setting, 0, 3)) return BAD_INDEX;
        if (out(value, ranges[setting][0], ranges[setting][1])) return BAD_VALUE;
        record();
        int old = w.settings[setting];
        w.settings[setting] = value;
        return old;
    }

    int count(int what) {
        if (out(what, 0, 13)) return BAD_VALUE;
        if (what >= 10) return w.settings[what - 10];
        int[] states = new int[5];
        for (Copy c : w.copies) states[c.state]++;
        int[] answers = {w.titles.size(), w.copies.size(), w.courses.size(), w.day, states[0], states[1], states[2],
            states[3], states[4], w.copies.size() - states[2] - states[3]};
        return answers[what];
    }

    private boolean useful(int title, int edition) {
        return w.courses.stream().anyMatch(c -> c.title == title && edition >= c.least);
    }

    private int demand(int title) {
        return w.courses.stream().filter(c -> c.title == title).mapToInt(c -> c.students).sum();
    }

    private int supply(int title) {
        return (int) w.copies.stream().filter(c -> c.title == title && c.state <= 1 && useful(title, c.edition)).count();
    }

    int title(int title, int what) {
        if (noTitle(title)) return BAD_INDEX;
        if (out(what, 0, 6)) return BAD_VALUE;
        Title t = w.titles.get(title);
        int lacking = demand(title) > supply(title) ? demand(title) - supply(title) : 0;
        int all = (int) w.copies.stream().filter(c -> c.title == title).count();
        int stock = (int) w.copies.stream().filter(c -> c.title == title && c.state == 0).count();
        return new int[] {t.price, t.current, demand(title), supply(title), lacking, all, stock}[what];
    }

    int course(int course, int what) {
        if (noCourse(course)) return BAD_INDEX;
        if (out(what, 0, 3)) return BAD_VALUE;
        Course c = w.courses.get(course);
        int takes = (int) w.copies.stream()
            .filter(k -> k.state == 0 && k.title == c.title && k.edition >= c.least).count();
        return new int[] {c.title, c.least, c.students, takes}[what];
    }

    private int worth(int title, int current, int edition, int grade) {
        long worth = (long) w.titles.get(title).price * (5 - grade) / 5;
        int cut = 0;
        for (int behind = edition; behind < current; behind++) cut += w.settings[3];
        if (cut > 100) cut = 100;
        return (int) (worth - Math.floorDiv(worth * cut, 100L));
    }

    private int worth(Copy c, int grade) {
        return worth(c.title, w.titles.get(c.title).current, c.edition, grade);
    }

    private int worth(Copy c) {
        return worth(c, c.grade);
    }

    private int late(Copy c) {
        return c.state == 1 && w.day > c.due ? w.day - c.due : 0;
    }

    int copy(int copy, int what) {
        if (noCopy(copy)) return BAD_INDEX;
        if (out(what, 0, 10)) return BAD_VALUE;
        Copy c = w.copies.get(copy);
        return new int[] {c.title, c.edition, c.grade, c.state, c.renter, c.due, worth(c), worth(c) * 3 / 10,
            worth(c) * 3 / 4, useful(c.title, c.edition) ? 1 : 0, late(c)}[what];
    }

    int book(int what) {
        if (out(what, 0, 7)) return BAD_VALUE;
        if (what < 7) return w.books[what];
        int sum = 100000000;
        for (int i = 0; i < 7; i++) sum += i < 5 ? w.books[i] : -w.books[i];
        return sum;
    }

    int buy(int title, int copies) {
        if (noTitle(title)) return BAD_INDEX;
        if (out(copies, 1, 20)) return BAD_VALUE;
        if (w.copies.size() + copies > 60) return FULL;
        record();
        int first = w.copies.size();
        for (int i = 0; i < copies; i++) {
            Copy c = new Copy();
            c.title = title;
            c.edition = w.titles.get(title).current;
            w.copies.add(c);
            w.books[5] += w.titles.get(title).price;
        }
        return first;
    }

    int offer(int title, int edition, int grade) {
        if (noTitle(title)) return BAD_INDEX;
        if (out(edition, 1, 30) || out(grade, 0, 4)) return BAD_VALUE;
        if (!useful(title, edition)) return 0;
        int full = worth(title, w.titles.get(title).current, edition, grade) * 2 / 5;
        return supply(title) < demand(title) ? full : full / 2;
    }

    int buyBack(int title, int edition, int grade) {
        int offer = offer(title, edition, grade);
        if (offer < 0) return offer;
        if (offer == 0) return BAD_STATE;
        if (w.copies.size() == 60) return FULL;
        record();
        Copy c = new Copy();
        c.title = title;
        c.edition = edition;
        c.grade = grade;
        w.copies.add(c);
        w.books[6] += offer;
        return w.copies.size() - 1;
    }

    int sell(int copy) {
        if (noCopy(copy)) return BAD_INDEX;
        Copy c = w.copies.get(copy);
        if (c.state != 0) return BAD_STATE;
        record();
        c = w.copies.get(copy);
        int price = worth(c) * 3 / 4;
        c.state = 2;
        w.books[4] += price;
        return price;
    }

    int rent(int customer, int course) {
        if (out(customer, 0, 7) || noCourse(course)) return BAD_INDEX;
        List<Integer> has = new ArrayList<>();
        for (Copy c : w.copies) if (c.renter == customer) has.add(c.title);
        int copy = next(course);
        if (has.size() > 3 || has.contains(w.courses.get(course).title) || copy == NONE) return BAD_STATE;
        record();
        Copy c = w.copies.get(copy);
        c.state = 1;
        c.renter = customer;
        c.due = w.day + w.settings[0];
        w.books[0] += worth(c) * 3 / 10;
        w.charged[customer] += worth(c) * 3 / 10;
        return copy;
    }

    int next(int course) {
        if (noCourse(course)) return BAD_INDEX;
        Course k = w.courses.get(course);
        List<Copy> fit = new ArrayList<>();
        for (Copy c : w.copies) if (c.state == 0 && c.title == k.title && c.edition >= k.least) fit.add(c);
        if (fit.isEmpty()) return NONE;
        fit.sort((a, b) -> a.grade != b.grade ? b.grade - a.grade : a.edition - b.edition);
        return w.copies.indexOf(fit.get(0));
    }

    private int[] charges(Copy c, int damage) {
        int worth = worth(c);
        int fee = Math.min(late(c) * w.settings[1], worth);
        int after = c.grade + damage;
        int harm = 0;
        if (after > 4) harm = worth;
        else if (damage >= 2) harm = worth(c, c.grade + 1) - worth(c, after);
        return new int[] {fee, harm, fee + harm};
    }

    int giveBack(int copy, int damage) {
        int all = charge(copy, damage, 2);
        if (all < 0) return all;
        record();
        Copy c = w.copies.get(copy);
        int[] charges = charges(c, damage);
        w.charged[c.renter] += charges[2];
        w.books[1] += charges[0];
        if (c.grade + damage > 4) {
            w.books[3] += charges[1];
            c.state = 3;
        } else {
            w.books[2] += charges[1];
            c.grade += damage;
            c.state = 0;
        }
        c.renter = NONE;
        c.due = NONE;
        return all;
    }

    int charge(int copy, int damage, int what) {
        if (noCopy(copy)) return BAD_INDEX;
        if (out(damage, 0, 4) || out(what, 0, 2)) return BAD_VALUE;
        if (w.copies.get(copy).state != 1) return BAD_STATE;
        return charges(w.copies.get(copy), damage)[what];
    }

    int pass(int days) {
        if (out(days, 1, 400)) return BAD_VALUE;
        if (w.day + days > 100000) return FULL;
        record();
        w.day += days;
        int lost = 0;
        for (Copy c : w.copies) {
            if (late(c) > w.settings[2]) {
                lost++;
                w.books[3] += worth(c);
                w.charged[c.renter] += worth(c);
                c.state = 3;
                c.renter = NONE;
                c.due = NONE;
            }
        }
        return lost;
    }

    int shelf(int title, int copies) {
        if (noTitle(title)) return BAD_INDEX;
        if (out(copies, 0, 60)) return BAD_VALUE;
        int stock = 0;
        int missing = 0;
        for (Copy c : w.copies) {
            if (c.title == title && c.state == 0) stock++;
            if (c.title == title && c.state == 4) missing++;
        }
        if (copies > stock + missing) return BAD_STATE;
        record();
        while (stock != copies) {
            int from = stock > copies ? 0 : 4;
            int found = NONE;
            for (int i = 0; i < w.copies.size(); i++) {
                Copy c = w.copies.get(i);
                boolean wanted = c.title == title && c.state == from;
                if (wanted && (from == 0 || found == NONE)) found = i;
            }
            w.copies.get(found).state = 4 - from;
            stock += from == 0 ? -1 : 1;
            missing += from == 0 ? 1 : -1;
        }
        return missing;
    }

    int customer(int customer, int what) {
        if (out(customer, 0, 7)) return BAD_INDEX;
        if (out(what, 0, 2)) return BAD_VALUE;
        int has = 0;
        int late = 0;
        for (Copy c : w.copies) {
            if (c.renter == customer) {
                has++;
                if (late(c) > 0) late++;
            }
        }
        return new int[] {has, late, w.charged[customer]}[what];
    }

    int lostIn(int days) {
        if (out(days, 1, 400)) return BAD_VALUE;
        int lost = 0;
        for (Copy c : w.copies) if (c.state == 1 && c.due + w.settings[2] < w.day + days) lost++;
        return lost;
    }

    int agingOf(int title) {
        if (noTitle(title)) return BAD_INDEX;
        if (w.titles.get(title).current == 30) return FULL;
        int before = 0;
        int after = 0;
        for (Copy c : w.copies) if (c.state != 2 && c.state != 3) before += worth(c);
        w.titles.get(title).current++;
        for (Copy c : w.copies) if (c.state != 2 && c.state != 3) after += worth(c);
        w.titles.get(title).current--;
        return before - after;
    }

    private boolean match(Copy copy, Map<Course, List<Copy>> given, List<Course> seen) {
        for (Course c : w.courses) {
            if (c.title != copy.title || copy.edition < c.least || c.students == 0 || seen.contains(c)) continue;
            seen.add(c);
            List<Copy> here = given.computeIfAbsent(c, k -> new ArrayList<>());
            if (here.size() < c.students) {
                here.add(copy);
                return true;
            }
            for (int i = 0; i < here.size(); i++) {
                if (match(here.get(i), given, seen)) {
                    here.set(i, copy);
                    return true;
                }
            }
        }
        return false;
    }

    int served() {
        Map<Course, List<Copy>> given = new HashMap<>();
        int served = 0;
        for (Copy c : w.copies) if (c.state == 0 && match(c, given, new ArrayList<>())) served++;
        return served;
    }

    int undo() {
        if (past.isEmpty()) return BAD_STATE;
        w = past.removeLast();
        return past.size();
    }

    int type(int code) {
        if (out(code, 0, 255)) return BAD_VALUE;
        if (text.length() == 100) return FULL;
        text.append((char) code);
        return text.length();
    }

    int clearText() {
        int length = text.length();
        text = new StringBuilder();
        return length;
    }

    private record Token(char kind, int at, String signs) {
    }

    /** 'w' for letters, 'n' for digits, 'b' for blanks, ';', '?' for others, '$' for the end. */
    private List<Token> tokens() {
        List<Token> tokens = new ArrayList<>();
        int i = 0;
        while (i < text.length()) {
            char kind = kind(text.charAt(i));
            int j = i + 1;
            while (j < text.length() && "wnb".indexOf(kind) >= 0 && kind(text.charAt(j)) == kind) j++;
            tokens.add(new Token(kind, i, text.substring(i, j)));
            i = j;
        }
        tokens.add(new Token('$', text.length(), ""));
        return tokens;
    }

    private static char kind(char sign) {
        if (sign >= 'a' && sign <= 'z') return 'w';
        if (sign >= '0' && sign <= '9') return 'n';
        if (sign == ' ') return 'b';
        return sign == ';' ? ';' : '?';
    }

    private static final Map<String, Integer> WORDS = Map.of("rent", 2, "back", 2, "buy", 2, "sell", 1, "wait", 1);

    /** What may stand next: a word, the first number, a blank, the second number, the end of an order. */
    private enum Wanted { WORD, FIRST, GAP, SECOND, CLOSE }

    int textFault() {
        Wanted wanted = Wanted.WORD;
        int numbers = 0;
        for (Token t : tokens()) {
            if (t.kind == 'b') {
                if (wanted == Wanted.GAP) wanted = Wanted.SECOND;
                continue;
            }
            switch (wanted) {
                case WORD -> {
                    if (t.kind != 'w' || !WORDS.containsKey(t.signs)) return t.at;
                    numbers = WORDS.get(t.signs);
                    wanted = Wanted.FIRST;
                }
                case FIRST, SECOND -> {
                    if (t.kind != 'n') return t.at;
                    if (t.signs.length() > 5) return t.at + 5;
                    wanted = wanted == Wanted.FIRST && numbers == 2 ? Wanted.GAP : Wanted.CLOSE;
                }
                case GAP -> {
                    return t.at;
                }
                default -> {
                    if (t.kind == '$') return NONE;
                    if (t.kind != ';') return t.at;
                    wanted = Wanted.WORD;
                }
            }
        }
        throw new IllegalStateException("the end is always allowed or a fault");
    }

    int orders() {
        if (textFault() != NONE) return BAD_STATE;
        record();
        recording = false;
        int done = 0;
        for (String order : text.toString().split(";")) {
            List<Integer> numbers = new ArrayList<>();
            for (String part : order.replaceAll("[a-z]", " ").trim().split(" +")) numbers.add(Integer.parseInt(part));
            if (order(order.replaceAll("[^a-z]", ""), numbers) < 0) break;
            done++;
        }
        recording = true;
        return done;
    }

    private int order(String word, List<Integer> n) {
        return switch (word) {
            case "rent" -> rent(n.get(0), n.get(1));
            case "back" -> giveBack(n.get(0), n.get(1));
            case "buy" -> buy(n.get(0), n.get(1));
            case "sell" -> sell(n.get(0));
            default -> pass(n.get(0));
        };
    }

    long digest() {
        List<Integer> all = new ArrayList<>();
        for (int i = 0; i < 14; i++) all.add(count(i));
        for (int t = 0; t < w.titles.size(); t++) for (int i = 0; i < 7; i++) all.add(title(t, i));
        for (int c = 0; c < w.courses.size(); c++) for (int i = 0; i < 4; i++) all.add(course(c, i));
        for (int c = 0; c < w.copies.size(); c++) for (int i = 0; i < 11; i++) all.add(copy(c, i));
        for (int i = 0; i < 8; i++) all.add(book(i));
        for (int c = 0; c < 8; c++) for (int i = 0; i < 3; i++) all.add(customer(c, i));
        long h = 17;
        for (int v : all) h = 31 * h + v;
        return h;
    }

    @Override
    public String toString() {
        return "day " + w.day + ", settings " + Arrays.toString(w.settings);
    }
}
