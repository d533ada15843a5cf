/**
 * A rental of textbooks. The face hands every call to the shop, the text or the history; each of them
 * changes nothing when it answers with an error code.
 */
public final class BookRental {
    public static final int NONE = -1;
    public static final int BAD_INDEX = -2;
    public static final int BAD_VALUE = -3;
    public static final int BAD_STATE = -4;
    public static final int FULL = -5;

    private final Shop shop = new Shop();
    private final History history = new History();
    private final OrderText text = new OrderText();

    public BookRental() {
    }

    public int addTitle(int price, int edition) {
        history.prepare(shop);
        return history.settle(shop.putTitle(price, edition));
    }

    public int setPrice(int title, int price) {
        history.prepare(shop);
        return history.settle(shop.changePrice(title, price));
    }

    public int newEdition(int title) {
        history.prepare(shop);
        return history.settle(shop.advanceEdition(title));
    }

    public int addCourse(int title, int least, int students) {
        history.prepare(shop);
        return history.settle(shop.putCourse(title, least, students));
    }

    public int setCourse(int course, int least, int students) {
        history.prepare(shop);
        return history.settle(shop.changeCourse(course, least, students));
    }

    public int set(int setting, int value) {
        history.prepare(shop);
        return history.settle(shop.changeSetting(setting, value));
    }

    public int count(int what) {
        return shop.numberOf(what);
    }

    public int title(int title, int what) {
        return shop.titleProperty(title, what);
    }

    public int course(int course, int what) {
        return shop.courseProperty(course, what);
    }

    public int copy(int copy, int what) {
        return shop.copyProperty(copy, what);
    }

    public int book(int what) {
        return shop.sumOf(what);
    }

    public int buy(int title, int copies) {
        history.prepare(shop);
        return history.settle(shop.buyNew(title, copies));
    }

    public int offer(int title, int edition, int grade) {
        return shop.offerFor(title, edition, grade);
    }

    public int buyBack(int title, int edition, int grade) {
        history.prepare(shop);
        return history.settle(shop.buyUsed(title, edition, grade));
    }

    public int sell(int copy) {
        history.prepare(shop);
        return history.settle(shop.sellCopy(copy));
    }

    public int rent(int customer, int course) {
        history.prepare(shop);
        return history.settle(shop.rentCopy(customer, course));
    }

    public int next(int course) {
        return shop.nextCopy(course);
    }

    public int giveBack(int copy, int damage) {
        history.prepare(shop);
        return history.settle(shop.takeBack(copy, damage));
    }

    public int charge(int copy, int damage, int what) {
        return shop.chargeFor(copy, damage, what);
    }

    public int pass(int days) {
        history.prepare(shop);
        return history.settle(shop.passDays(days));
    }

    public int shelf(int title, int copies) {
        history.prepare(shop);
        return history.settle(shop.countShelf(title, copies));
    }

    public int customer(int customer, int what) {
        return shop.customerNumber(customer, what);
    }

    public int lostIn(int days) {
        return shop.lostAfter(days);
    }

    public int agingOf(int title) {
        return shop.agingBy(title);
    }

    public int served() {
        return shop.servedStudents();
    }

    public int undo() {
        return history.restore(shop);
    }

    public int type(int code) {
        return text.append(code);
    }

    public int clearText() {
        return text.empty();
    }

    public int textFault() {
        return text.faultOf();
    }

    public int orders() {
        if (text.faultOf() != NONE) {
            return BAD_STATE;
        }
        history.prepare(shop);
        text.startReading();
        int done = 0;
        while (done < OrderText.ROOM && text.hasMore() && text.readOrder() == NONE && carryOut() >= 0) {
            done++;
        }
        return history.settle(done);
    }

    public long digest() {
        long h = 17;
        for (int what = 0; what <= Shop.LAST_NUMBER; what++) {
            h = 31 * h + shop.numberOf(what);
        }
        for (int title = 0; title < shop.titles; title++) {
            for (int what = 0; what <= Shop.LAST_OF_TITLE; what++) {
                h = 31 * h + shop.titleProperty(title, what);
            }
        }
        for (int course = 0; course < shop.courses; course++) {
            for (int what = 0; what <= Shop.LAST_OF_COURSE; what++) {
                h = 31 * h + shop.courseProperty(course, what);
            }
        }
        for (int copy = 0; copy < shop.copies; copy++) {
            for (int what = 0; what <= Shop.LAST_OF_COPY; what++) {
                h = 31 * h + shop.copyProperty(copy, what);
            }
        }
        for (int what = 0; what <= Shop.LAST_SUM; what++) {
            h = 31 * h + shop.sumOf(what);
        }
        for (int customer = 0; customer < Shop.CUSTOMERS; customer++) {
            for (int what = 0; what <= Shop.LAST_OF_CUSTOMER; what++) {
                h = 31 * h + shop.customerNumber(customer, what);
            }
        }
        return h;
    }

    /** Goes to the shop, not to the methods of the face: those would each be recorded. */
    private int carryOut() {
        switch (text.word()) {
            case OrderText.RENT:
                return shop.rentCopy(text.first(), text.second());
            case OrderText.BACK:
                return shop.takeBack(text.first(), text.second());
            case OrderText.BUY:
                return shop.buyNew(text.first(), text.second());
            case OrderText.SELL:
                return shop.sellCopy(text.first());
            default:
                return shop.passDays(text.first());
        }
    }

    /** The whole state but the text, with all the rules by which it is read and changed. */
    private static final class Shop {
        static final int CUSTOMERS = 8;
        static final int LAST_NUMBER = 13;
        static final int LAST_OF_TITLE = 6;
        static final int LAST_OF_COURSE = 3;
        static final int LAST_OF_COPY = 10;
        static final int LAST_SUM = 7;
        static final int LAST_OF_CUSTOMER = 2;

        private static final int MOST_TITLES = 6;
        private static final int MOST_COURSES = 6;
        private static final int MOST_COPIES = 60;
        private static final int LOWEST_PRICE = 100;
        private static final int HIGHEST_PRICE = 20000;
        private static final int LAST_EDITION = 30;
        private static final int MOST_STUDENTS = 200;
        private static final int WORST_GRADE = 4;
        private static final int MOST_BOUGHT = 20;
        private static final int MOST_RENTED = 4;
        private static final int MOST_DAYS = 400;
        private static final int LAST_DAY = 100000;

        private static final int IN_STOCK = 0;
        private static final int RENTED = 1;
        private static final int SOLD = 2;
        private static final int LOST = 3;
        private static final int MISSING = 4;

        private static final int RENT_DAYS = 0;
        private static final int LATE_FEE = 1;
        private static final int LOST_BEHIND = 2;
        private static final int EDITION_CUT = 3;
        private static final int LAST_SETTING = 3;
        private static final int[] SETTING_LOW = {10, 0, 1, 0};
        private static final int[] SETTING_HIGH = {200, 200, 60, 50};

        private static final int RENTS = 0;
        private static final int LATE_FEES = 1;
        private static final int DAMAGES = 2;
        private static final int LOSSES = 3;
        private static final int SALES = 4;
        private static final int BOUGHT_NEW = 5;
        private static final int BOUGHT_BACK = 6;
        private static final int BALANCE_ADDS = 100000000;

        private int day = 0;
        private int titles = 0;
        private int courses = 0;
        private int copies = 0;
        private final int[] settings = {100, 25, 30, 20};
        private final int[] price = new int[MOST_TITLES];
        private final int[] currentEdition = new int[MOST_TITLES];
        private final int[] titleOfCourse = new int[MOST_COURSES];
        private final int[] least = new int[MOST_COURSES];
        private final int[] students = new int[MOST_COURSES];
        private final int[] titleOfCopy = new int[MOST_COPIES];
        private final int[] edition = new int[MOST_COPIES];
        private final int[] grade = new int[MOST_COPIES];
        private final int[] state = new int[MOST_COPIES];
        private final int[] renter = new int[MOST_COPIES];
        private final int[] due = new int[MOST_COPIES];
        private final int[] sums = new int[LAST_SUM];
        private final int[] charged = new int[CUSTOMERS];

        Shop() {
        }

        void becomeLike(Shop other) {
            day = other.day;
            titles = other.titles;
            courses = other.courses;
            copies = other.copies;
            fill(settings, other.settings);
            fill(price, other.price);
            fill(currentEdition, other.currentEdition);
            fill(titleOfCourse, other.titleOfCourse);
            fill(least, other.least);
            fill(students, other.students);
            fill(titleOfCopy, other.titleOfCopy);
            fill(edition, other.edition);
            fill(grade, other.grade);
            fill(state, other.state);
            fill(renter, other.renter);
            fill(due, other.due);
            fill(sums, other.sums);
            fill(charged, other.charged);
        }

        private static void fill(int[] row, int[] from) {
            System.arraycopy(from, 0, row, 0, Math.min(row.length, from.length));
        }

        // ---- titles, courses and settings

        int putTitle(int newPrice, int firstEdition) {
            if (!isPrice(newPrice) || !isEdition(firstEdition)) {
                return BAD_VALUE;
            }
            if (titles >= MOST_TITLES) {
                return FULL;
            }
            price[titles] = newPrice;
            currentEdition[titles] = firstEdition;
            titles++;
            return titles - 1;
        }

        int changePrice(int title, int newPrice) {
            if (!hasTitle(title)) {
                return BAD_INDEX;
            }
            if (!isPrice(newPrice)) {
                return BAD_VALUE;
            }
            int previous = price[title];
            price[title] = newPrice;
            return previous;
        }

        int advanceEdition(int title) {
            if (!hasTitle(title)) {
                return BAD_INDEX;
            }
            if (currentEdition[title] >= LAST_EDITION) {
                return FULL;
            }
            currentEdition[title]++;
            return currentEdition[title];
        }

        int putCourse(int title, int leastEdition, int studentsOfIt) {
            if (!hasTitle(title)) {
                return BAD_INDEX;
            }
            if (!isEdition(leastEdition) || !isBetween(studentsOfIt, 0, MOST_STUDENTS)) {
                return BAD_VALUE;
            }
            if (courses >= MOST_COURSES) {
                return FULL;
            }
            titleOfCourse[courses] = title;
            least[courses] = leastEdition;
            students[courses] = studentsOfIt;
            courses++;
            return courses - 1;
        }

        int changeCourse(int course, int leastEdition, int studentsOfIt) {
            if (!hasCourse(course)) {
                return BAD_INDEX;
            }
            if (!isEdition(leastEdition) || !isBetween(studentsOfIt, 0, MOST_STUDENTS)) {
                return BAD_VALUE;
            }
            int previous = students[course];
            least[course] = leastEdition;
            students[course] = studentsOfIt;
            return previous;
        }

        int changeSetting(int setting, int value) {
            if (!isBetween(setting, 0, LAST_SETTING)) {
                return BAD_INDEX;
            }
            if (!isBetween(value, SETTING_LOW[setting], SETTING_HIGH[setting])) {
                return BAD_VALUE;
            }
            int previous = settings[setting];
            settings[setting] = value;
            return previous;
        }

        // ---- what is told

        int numberOf(int what) {
            switch (what) {
                case 0:
                    return titles;
                case 1:
                    return copies;
                case 2:
                    return courses;
                case 3:
                    return day;
                case 4:
                    return copiesIn(IN_STOCK);
                case 5:
                    return copiesIn(RENTED);
                case 6:
                    return copiesIn(SOLD);
                case 7:
                    return copiesIn(LOST);
                case 8:
                    return copiesIn(MISSING);
                case 9:
                    return copiesIn(IN_STOCK) + copiesIn(RENTED) + copiesIn(MISSING);
                case 10:
                    return settings[RENT_DAYS];
                case 11:
                    return settings[LATE_FEE];
                case 12:
                    return settings[LOST_BEHIND];
                case 13:
                    return settings[EDITION_CUT];
                default:
                    return BAD_VALUE;
            }
        }

        int titleProperty(int title, int what) {
            if (!hasTitle(title)) {
                return BAD_INDEX;
            }
            switch (what) {
                case 0:
                    return price[title];
                case 1:
                    return currentEdition[title];
                case 2:
                    return demandOf(title);
                case 3:
                    return supplyOf(title);
                case 4:
                    return Math.max(0, demandOf(title) - supplyOf(title));
                case 5:
                    return copiesOf(title);
                case 6:
                    return copiesOfIn(title, IN_STOCK);
                default:
                    return BAD_VALUE;
            }
        }

        int courseProperty(int course, int what) {
            if (!hasCourse(course)) {
                return BAD_INDEX;
            }
            switch (what) {
                case 0:
                    return titleOfCourse[course];
                case 1:
                    return least[course];
                case 2:
                    return students[course];
                case 3:
                    return stockFor(course);
                default:
                    return BAD_VALUE;
            }
        }

        int copyProperty(int copy, int what) {
            if (!hasCopy(copy)) {
                return BAD_INDEX;
            }
            boolean isRented = state[copy] == RENTED;
            switch (what) {
                case 0:
                    return titleOfCopy[copy];
                case 1:
                    return edition[copy];
                case 2:
                    return grade[copy];
                case 3:
                    return state[copy];
                case 4:
                    return isRented ? renter[copy] : NONE;
                case 5:
                    return isRented ? due[copy] : NONE;
                case 6:
                    return worthOf(copy);
                case 7:
                    return rentCost(copy);
                case 8:
                    return saleCost(copy);
                case 9:
                    return isOfUse(titleOfCopy[copy], edition[copy]) ? 1 : 0;
                case 10:
                    return isRented ? daysLate(copy) : 0;
                default:
                    return BAD_VALUE;
            }
        }

        int sumOf(int what) {
            if (!isBetween(what, 0, LAST_SUM)) {
                return BAD_VALUE;
            }
            if (what < LAST_SUM) {
                return sums[what];
            }
            int earned = sums[RENTS] + sums[LATE_FEES] + sums[DAMAGES] + sums[LOSSES] + sums[SALES];
            return BALANCE_ADDS + earned - sums[BOUGHT_NEW] - sums[BOUGHT_BACK];
        }

        int customerNumber(int customer, int what) {
            if (!hasCustomer(customer)) {
                return BAD_INDEX;
            }
            switch (what) {
                case 0:
                    return rentedBy(customer);
                case 1:
                    return lateBy(customer);
                case 2:
                    return charged[customer];
                default:
                    return BAD_VALUE;
            }
        }

        // ---- buying and selling

        int buyNew(int title, int number) {
            if (!hasTitle(title)) {
                return BAD_INDEX;
            }
            if (!isBetween(number, 1, MOST_BOUGHT)) {
                return BAD_VALUE;
            }
            if (copies + number > MOST_COPIES) {
                return FULL;
            }
            int firstOne = copies;
            for (int i = 0; i < number; i++) {
                putCopy(title, currentEdition[title], 0);
            }
            sums[BOUGHT_NEW] += number * price[title];
            return firstOne;
        }

        int offerFor(int title, int itsEdition, int itsGrade) {
            if (!hasTitle(title)) {
                return BAD_INDEX;
            }
            if (!isEdition(itsEdition) || !isGrade(itsGrade)) {
                return BAD_VALUE;
            }
            if (!isOfUse(title, itsEdition)) {
                return 0;
            }
            int offered = worthBy(title, currentEdition[title], itsEdition, itsGrade) * 40 / 100;
            return supplyOf(title) >= demandOf(title) ? offered / 2 : offered;
        }

        int buyUsed(int title, int itsEdition, int itsGrade) {
            int offered = offerFor(title, itsEdition, itsGrade);
            if (offered < 0) {
                return offered;
            }
            if (offered == 0) {
                return BAD_STATE;
            }
            if (copies >= MOST_COPIES) {
                return FULL;
            }
            putCopy(title, itsEdition, itsGrade);
            sums[BOUGHT_BACK] += offered;
            return copies - 1;
        }

        int sellCopy(int copy) {
            if (!hasCopy(copy)) {
                return BAD_INDEX;
            }
            if (state[copy] != IN_STOCK) {
                return BAD_STATE;
            }
            int cost = saleCost(copy);
            state[copy] = SOLD;
            sums[SALES] += cost;
            return cost;
        }

        /** Only while there is room for one more. */
        private void putCopy(int title, int itsEdition, int itsGrade) {
            titleOfCopy[copies] = title;
            edition[copies] = itsEdition;
            grade[copies] = itsGrade;
            state[copies] = IN_STOCK;
            copies++;
        }

        // ---- renting

        int rentCopy(int customer, int course) {
            if (!hasCustomer(customer) || !hasCourse(course)) {
                return BAD_INDEX;
            }
            int copy = bestFor(course);
            if (copy == NONE || !canRent(customer, titleOfCourse[course])) {
                return BAD_STATE;
            }
            int cost = rentCost(copy);
            state[copy] = RENTED;
            renter[copy] = customer;
            due[copy] = day + settings[RENT_DAYS];
            sums[RENTS] += cost;
            charged[customer] += cost;
            return copy;
        }

        int nextCopy(int course) {
            return hasCourse(course) ? bestFor(course) : BAD_INDEX;
        }

        int chargeFor(int copy, int damage, int what) {
            if (!hasCopy(copy)) {
                return BAD_INDEX;
            }
            if (!isGrade(damage) || !isBetween(what, 0, 2)) {
                return BAD_VALUE;
            }
            if (state[copy] != RENTED) {
                return BAD_STATE;
            }
            int forLateness = what == 1 ? 0 : lateCharge(copy);
            int forDamage = what == 0 ? 0 : damageCharge(copy, damage);
            return forLateness + forDamage;
        }

        int takeBack(int copy, int damage) {
            if (!hasCopy(copy)) {
                return BAD_INDEX;
            }
            if (!isGrade(damage)) {
                return BAD_VALUE;
            }
            if (state[copy] != RENTED) {
                return BAD_STATE;
            }
            // Both follow from the worth as it is ahead of all, so they are found before the grade changes.
            int forLateness = lateCharge(copy);
            int forDamage = damageCharge(copy, damage);
            if (isRuinedBy(copy, damage)) {
                state[copy] = LOST;
                sums[LOSSES] += forDamage;
            } else {
                state[copy] = IN_STOCK;
                grade[copy] += damage;
                sums[DAMAGES] += forDamage;
            }
            sums[LATE_FEES] += forLateness;
            charged[renter[copy]] += forLateness + forDamage;
            return forLateness + forDamage;
        }

        int passDays(int days) {
            if (!isBetween(days, 1, MOST_DAYS)) {
                return BAD_VALUE;
            }
            if (day + days > LAST_DAY) {
                return FULL;
            }
            day += days;
            int lost = 0;
            for (int copy = 0; copy < copies; copy++) {
                if (isLostOn(copy, day)) {
                    int worth = worthOf(copy);
                    state[copy] = LOST;
                    sums[LOSSES] += worth;
                    charged[renter[copy]] += worth;
                    lost++;
                }
            }
            return lost;
        }

        /** The copy that the course would get; NONE if none in stock suits it. */
        private int bestFor(int course) {
            int best = NONE;
            for (int copy = 0; copy < copies; copy++) {
                if (state[copy] == IN_STOCK && suits(copy, course) && (best == NONE || goesAhead(copy, best))) {
                    best = copy;
                }
            }
            return best;
        }

        /** Whether one copy is rented before another that has a lower number. */
        private boolean goesAhead(int copy, int other) {
            if (grade[copy] != grade[other]) {
                return grade[copy] > grade[other];
            }
            return edition[copy] < edition[other];
        }

        private boolean canRent(int customer, int title) {
            for (int copy = 0; copy < copies; copy++) {
                if (isRentedBy(copy, customer) && titleOfCopy[copy] == title) {
                    return false;
                }
            }
            return rentedBy(customer) < MOST_RENTED;
        }

        private int lateCharge(int copy) {
            return Math.min(daysLate(copy) * settings[LATE_FEE], worthOf(copy));
        }

        private int damageCharge(int copy, int damage) {
            if (isRuinedBy(copy, damage)) {
                return worthOf(copy);
            }
            if (damage < 2) {
                return 0;
            }
            return worthWithGrade(copy, grade[copy] + 1) - worthWithGrade(copy, grade[copy] + damage);
        }

        private boolean isRuinedBy(int copy, int damage) {
            return grade[copy] + damage > WORST_GRADE;
        }

        private boolean isLostOn(int copy, int thatDay) {
            return state[copy] == RENTED && thatDay - due[copy] > settings[LOST_BEHIND];
        }

        /** Only for a rented copy. */
        private int daysLate(int copy) {
            return Math.max(0, day - due[copy]);
        }

        private boolean isRentedBy(int copy, int customer) {
            return state[copy] == RENTED && renter[copy] == customer;
        }

        private int rentedBy(int customer) {
            int found = 0;
            for (int copy = 0; copy < copies; copy++) {
                if (isRentedBy(copy, customer)) {
                    found++;
                }
            }
            return found;
        }

        private int lateBy(int customer) {
            int found = 0;
            for (int copy = 0; copy < copies; copy++) {
                if (isRentedBy(copy, customer) && daysLate(copy) > 0) {
                    found++;
                }
            }
            return found;
        }

        // ---- missing

        int countShelf(int title, int number) {
            if (!hasTitle(title)) {
                return BAD_INDEX;
            }
            if (!isBetween(number, 0, MOST_COPIES)) {
                return BAD_VALUE;
            }
            int inStock = copiesOfIn(title, IN_STOCK);
            int missing = copiesOfIn(title, MISSING);
            if (number > inStock + missing) {
                return BAD_STATE;
            }
            loseSight(title, inStock - number);
            findAgain(title, number - inStock);
            return inStock + missing - number;
        }

        private void loseSight(int title, int number) {
            int left = number;
            for (int copy = copies - 1; copy >= 0 && left > 0; copy--) {
                if (titleOfCopy[copy] == title && state[copy] == IN_STOCK) {
                    state[copy] = MISSING;
                    left--;
                }
            }
        }

        private void findAgain(int title, int number) {
            int left = number;
            for (int copy = 0; copy < copies && left > 0; copy++) {
                if (titleOfCopy[copy] == title && state[copy] == MISSING) {
                    state[copy] = IN_STOCK;
                    left--;
                }
            }
        }

        // ---- foretelling

        int lostAfter(int days) {
            if (!isBetween(days, 1, MOST_DAYS)) {
                return BAD_VALUE;
            }
            int lost = 0;
            for (int copy = 0; copy < copies; copy++) {
                if (isLostOn(copy, day + days)) {
                    lost++;
                }
            }
            return lost;
        }

        int agingBy(int title) {
            if (!hasTitle(title)) {
                return BAD_INDEX;
            }
            int current = currentEdition[title];
            if (current >= LAST_EDITION) {
                return FULL;
            }
            int decrease = 0;
            for (int copy = 0; copy < copies; copy++) {
                if (titleOfCopy[copy] == title && isOwned(copy)) {
                    int then = worthBy(title, current + 1, edition[copy], grade[copy]);
                    decrease += worthOf(copy) - then;
                }
            }
            return decrease;
        }

        int servedStudents() {
            int found = 0;
            for (int title = 0; title < titles; title++) {
                found += servedWith(title);
            }
            return found;
        }

        /**
         * What a course takes, each course of the title with a lower least edition takes too. So the
         * courses with the highest least edition come first: nobody else has less to choose from.
         */
        private int servedWith(int title) {
            int found = 0;
            int free = 0;
            for (int wanted = LAST_EDITION; wanted >= 1; wanted--) {
                free += stockOfEdition(title, wanted);
                int getOne = Math.min(free, studentsFrom(title, wanted));
                free -= getOne;
                found += getOne;
            }
            return found;
        }

        private int stockOfEdition(int title, int wanted) {
            int found = 0;
            for (int copy = 0; copy < copies; copy++) {
                if (titleOfCopy[copy] == title && edition[copy] == wanted && state[copy] == IN_STOCK) {
                    found++;
                }
            }
            return found;
        }

        private int studentsFrom(int title, int leastEdition) {
            int found = 0;
            for (int course = 0; course < courses; course++) {
                if (titleOfCourse[course] == title && least[course] == leastEdition) {
                    found += students[course];
                }
            }
            return found;
        }

        // ---- worth and prices

        private int worthOf(int copy) {
            int title = titleOfCopy[copy];
            return worthBy(title, currentEdition[title], edition[copy], grade[copy]);
        }

        private int worthWithGrade(int copy, int itsGrade) {
            int title = titleOfCopy[copy];
            return worthBy(title, currentEdition[title], edition[copy], itsGrade);
        }

        private int worthBy(int title, int current, int itsEdition, int itsGrade) {
            int worth = price[title] * (100 - 20 * itsGrade) / 100;
            int behind = Math.max(0, current - itsEdition);
            int cut = Math.min(100, settings[EDITION_CUT] * behind);
            return worth - worth * cut / 100;
        }

        private int rentCost(int copy) {
            return worthOf(copy) * 30 / 100;
        }

        private int saleCost(int copy) {
            return worthOf(copy) * 75 / 100;
        }

        // ---- demand, supply and use

        private int demandOf(int title) {
            int demand = 0;
            for (int course = 0; course < courses; course++) {
                if (titleOfCourse[course] == title) {
                    demand += students[course];
                }
            }
            return demand;
        }

        private int supplyOf(int title) {
            int supply = 0;
            for (int copy = 0; copy < copies; copy++) {
                boolean isHere = state[copy] == IN_STOCK || state[copy] == RENTED;
                if (titleOfCopy[copy] == title && isHere && isOfUse(title, edition[copy])) {
                    supply++;
                }
            }
            return supply;
        }

        private boolean isOfUse(int title, int itsEdition) {
            for (int course = 0; course < courses; course++) {
                if (takes(course, title, itsEdition)) {
                    return true;
                }
            }
            return false;
        }

        private boolean takes(int course, int title, int itsEdition) {
            return titleOfCourse[course] == title && itsEdition >= least[course];
        }

        private boolean suits(int copy, int course) {
            return takes(course, titleOfCopy[copy], edition[copy]);
        }

        private int stockFor(int course) {
            int found = 0;
            for (int copy = 0; copy < copies; copy++) {
                if (state[copy] == IN_STOCK && suits(copy, course)) {
                    found++;
                }
            }
            return found;
        }

        private int copiesIn(int wanted) {
            int found = 0;
            for (int copy = 0; copy < copies; copy++) {
                if (state[copy] == wanted) {
                    found++;
                }
            }
            return found;
        }

        private int copiesOf(int title) {
            int found = 0;
            for (int copy = 0; copy < copies; copy++) {
                if (titleOfCopy[copy] == title) {
                    found++;
                }
            }
            return found;
        }

        private int copiesOfIn(int title, int wanted) {
            int found = 0;
            for (int copy = 0; copy < copies; copy++) {
                if (titleOfCopy[copy] == title && state[copy] == wanted) {
                    found++;
                }
            }
            return found;
        }

        private boolean isOwned(int copy) {
            return state[copy] == IN_STOCK || state[copy] == RENTED || state[copy] == MISSING;
        }

        // ---- what arguments may be

        private boolean hasTitle(int title) {
            return isBetween(title, 0, titles - 1);
        }

        private boolean hasCourse(int course) {
            return isBetween(course, 0, courses - 1);
        }

        private boolean hasCopy(int copy) {
            return isBetween(copy, 0, copies - 1);
        }

        private static boolean hasCustomer(int customer) {
            return isBetween(customer, 0, CUSTOMERS - 1);
        }

        private static boolean isPrice(int value) {
            return isBetween(value, LOWEST_PRICE, HIGHEST_PRICE);
        }

        private static boolean isEdition(int value) {
            return isBetween(value, 1, LAST_EDITION);
        }

        private static boolean isGrade(int value) {
            return isBetween(value, 0, WORST_GRADE);
        }

        private static boolean isBetween(int value, int low, int high) {
            return value >= low && value <= high;
        }
    }

    /**
     * The latest states, in a ring with one place more than are kept: the state before a call is put
     * into the spare place, and stays there only if the call returns no error.
     */
    private static final class History {
        private static final int MOST_KEPT = 5;
        private static final int PLACES = MOST_KEPT + 1;

        private final Shop[] ring = new Shop[PLACES];
        private int spare = 0;
        private int kept = 0;

        History() {
            for (int i = 0; i < PLACES; i++) {
                ring[i] = new Shop();
            }
        }

        void prepare(Shop shop) {
            ring[spare].becomeLike(shop);
        }

        int settle(int answer) {
            if (answer >= 0) {
                spare = (spare + 1) % PLACES;
                kept = Math.min(kept + 1, MOST_KEPT);
            }
            return answer;
        }

        int restore(Shop shop) {
            if (kept == 0) {
                return BAD_STATE;
            }
            spare = (spare + PLACES - 1) % PLACES;
            kept--;
            shop.becomeLike(ring[spare]);
            return kept;
        }
    }

    /** The text, and the reading of its orders one by one. */
    private static final class OrderText {
        static final int ROOM = 100;
        static final int RENT = 0;
        static final int BACK = 1;
        static final int BUY = 2;
        static final int SELL = 3;
        static final int WAIT = 4;

        private static final int HIGHEST_BYTE = 255;
        private static final int MOST_DIGITS = 5;
        private static final int END = -1;

        private final int[] bytes = new int[ROOM];
        private int length = 0;
        private int at = 0;
        private boolean more = false;
        private int word = NONE;
        private int first = 0;
        private int second = 0;

        OrderText() {
        }

        int append(int code) {
            if (code < 0 || code > HIGHEST_BYTE) {
                return BAD_VALUE;
            }
            if (length >= ROOM) {
                return FULL;
            }
            bytes[length] = code;
            length++;
            return length;
        }

        int empty() {
            int previous = length;
            length = 0;
            return previous;
        }

        int faultOf() {
            startReading();
            for (int i = 0; i <= ROOM && more; i++) {
                int fault = readOrder();
                if (fault != NONE) {
                    return fault;
                }
            }
            return NONE;
        }

        void startReading() {
            at = 0;
            more = true;
        }

        boolean hasMore() {
            return more;
        }

        int word() {
            return word;
        }

        int first() {
            return first;
        }

        int second() {
            return second;
        }

        /** Reads an order and the semicolon behind it; returns its fault, NONE if it has none. */
        int readOrder() {
            skipBlanks();
            int start = at;
            word = readWord();
            if (word == NONE) {
                return start;
            }
            skipBlanks();
            first = readNumber();
            if (first == NONE) {
                return at;
            }
            if (takesTwo(word)) {
                if (here() != ' ') {
                    return at;
                }
                skipBlanks();
                second = readNumber();
                if (second == NONE) {
                    return at;
                }
            }
            skipBlanks();
            return readEndOfOrder();
        }

        private int readEndOfOrder() {
            more = here() == ';';
            if (more) {
                at++;
                return NONE;
            }
            return here() == END ? NONE : at;
        }

        /** Reads all small letters that follow; returns the word that they are, NONE if they are another. */
        private int readWord() {
            int start = at;
            while (at < length && bytes[at] >= 'a' && bytes[at] <= 'z') {
                at++;
            }
            if (stands("rent", start)) {
                return RENT;
            }
            if (stands("back", start)) {
                return BACK;
            }
            if (stands("buy", start)) {
                return BUY;
            }
            if (stands("sell", start)) {
                return SELL;
            }
            return stands("wait", start) ? WAIT : NONE;
        }

        /** Whether the bytes from the start up to the place of reading are just this word. */
        private boolean stands(String wanted, int start) {
            if (wanted.length() != at - start) {
                return false;
            }
            for (int i = 0; i < wanted.length() && start + i < length; i++) {
                if (bytes[start + i] != wanted.charAt(i)) {
                    return false;
                }
            }
            return true;
        }

        private static boolean takesTwo(int someWord) {
            return someWord == RENT || someWord == BACK || someWord == BUY;
        }

        /** Reads a number; returns NONE if it has a fault, and stands at it then. */
        private int readNumber() {
            int value = 0;
            int digits = 0;
            while (at < length && bytes[at] >= '0' && bytes[at] <= '9') {
                if (digits == MOST_DIGITS) {
                    return NONE;
                }
                value = value * 10 + bytes[at] - '0';
                digits++;
                at++;
            }
            return digits == 0 ? NONE : value;
        }

        private void skipBlanks() {
            while (at < length && bytes[at] == ' ') {
                at++;
            }
        }

        private int here() {
            return at < length ? bytes[at] : END;
        }
    }
}
