/** A desk for goods that come back: they are tested, graded, and sent on a route; vendors are claimed on. */
public final class ReturnGrades {
    public static final int NONE = -1;

    private static final int PRODUCTS = 6;
    private static final int VENDORS = 4;
    private static final int REASONS = 4;
    private static final int UNITS = 20;
    private static final int TESTS = 4;
    private static final int SAVED_STATES = 6;
    private static final int BUFFER_LENGTH = 60;

    private static final int HIGHEST_COST = 9999;
    private static final int HIGHEST_PERCENT = 100;
    private static final int HIGHEST_LIMIT = 99999;
    private static final int HIGHEST_SCORE = 9;
    private static final int HIGHEST_SUM = 36;
    private static final int HIGHEST_PER_DAY = 5;
    private static final int HIGHEST_POINT_COST = 20;
    private static final int MOST_DAYS = 30;
    private static final int LAST_DAY = 2000;

    private static final int GRADE_WITH_A_ZERO = 2;
    private static final int WORST_GRADE = 3;
    private static final int REPAIRED_SCORE = 7;
    private static final int MOST_VISITS = 2;

    private static final int SETTING_PER_DAY = 3;
    private static final int SETTING_POINT_COST = 4;

    /** Where a unit is. A route bears the number of the place to which it leads. */
    private static final int IN_STOCK = 0;
    private static final int IN_WORKSHOP = 1;
    private static final int SOLD = 2;
    private static final int SCRAPPED = 3;
    private static final int SENT_BACK = 4;

    /** The orders in which units are ranked. */
    private static final int WORKSHOP_ORDER = 0;
    private static final int WORKSHOP_ORDER_NOT_HELD = 1;
    private static final int CLAIM_ORDER = 2;
    /** No grade, cost or amount that there can be leads to a rank as great as this. */
    private static final int ABOVE_ALL_RANKS = 1000000000;

    private static final long SIGN_BIT = 1L << 63;

    private final Desk desk;
    /** A second desk, on which ifClosed() closes the period without changing the first. */
    private final Desk trial;
    private final History history;
    private final Buffer buffer;

    public ReturnGrades() {
        desk = new Desk();
        trial = new Desk();
        history = new History();
        buffer = new Buffer();
    }

    // ---- products, vendors

    public int product(int product, int cost, int vendor) throws IndexOutOfBoundsException, IllegalArgumentException {
        Product changed = productNumbered(product);
        vendorNumbered(vendor);
        requireRange(cost, 1, HIGHEST_COST);
        history.save(desk);
        int previous = changed.cost;
        changed.cost = cost;
        changed.vendor = vendor;
        return previous;
    }

    public int recall(int product, boolean is) throws IndexOutOfBoundsException {
        Product changed = productNumbered(product);
        history.save(desk);
        changed.recalled = is;
        return desk.heldUnits();
    }

    public int agree(int vendor, int reason, int percent) throws IndexOutOfBoundsException, IllegalArgumentException {
        Vendor changed = vendorNumbered(vendor);
        if (!isIndex(reason, changed.agreements.length)) {
            throw new IndexOutOfBoundsException("no such reason");
        }
        requireRange(percent, 0, HIGHEST_PERCENT);
        history.save(desk);
        int previous = changed.agreements[reason];
        changed.agreements[reason] = percent;
        return previous;
    }

    public int limit(int vendor, int limit) throws IndexOutOfBoundsException, IllegalArgumentException {
        Vendor changed = vendorNumbered(vendor);
        requireRange(limit, 0, HIGHEST_LIMIT);
        history.save(desk);
        int previous = changed.limit;
        changed.limit = limit;
        return previous;
    }

    public int set(int setting, int value) throws IndexOutOfBoundsException, IllegalArgumentException {
        if (!isIndex(setting, desk.settings.length)) {
            throw new IndexOutOfBoundsException("no such setting");
        }
        requireRange(value, lowestValue(setting), highestValue(setting));
        history.save(desk);
        int previous = desk.settings[setting];
        desk.settings[setting] = value;
        return previous;
    }

    // ---- units

    public int receive(int product, int reason) throws IndexOutOfBoundsException, IllegalStateException {
        productNumbered(product);
        if (!isIndex(reason, REASONS)) {
            throw new IndexOutOfBoundsException("no such reason");
        }
        if (desk.unitCount >= UNITS) {
            throw new IllegalStateException("the desk is full");
        }
        history.save(desk);
        desk.addUnit(product, reason);
        return desk.unitCount - 1;
    }

    public int test(int unit, int test, int score)
            throws IndexOutOfBoundsException, IllegalArgumentException, IllegalStateException {
        Unit tested = unitNumbered(unit);
        if (!isIndex(test, tested.scores.length)) {
            throw new IndexOutOfBoundsException("no such test");
        }
        requireRange(score, 0, HIGHEST_SCORE);
        if (tested.place != IN_STOCK) {
            throw new IllegalStateException("the unit is not in stock");
        }
        history.save(desk);
        tested.scores[test] = score;
        return desk.gradeOf(tested);
    }

    public int send(int unit, int route)
            throws IndexOutOfBoundsException, IllegalArgumentException, IllegalStateException {
        Unit sent = unitNumbered(unit);
        requireRange(route, IN_WORKSHOP, SENT_BACK);
        if (desk.obstacle(sent, route) != 0) {
            throw new IllegalStateException("the unit cannot go there");
        }
        history.save(desk);
        return desk.move(sent, route);
    }

    public int pass(int days) throws IllegalArgumentException, IllegalStateException {
        requireRange(days, 1, MOST_DAYS);
        if (desk.day + days > LAST_DAY) {
            throw new IllegalStateException("the number of the day would be too high");
        }
        history.save(desk);
        int cost = 0;
        for (int i = 0; i < days; i++) {
            cost += desk.nextDay();
        }
        return cost;
    }

    // ---- claims

    public int claim(int unit) throws IndexOutOfBoundsException, IllegalStateException {
        Unit claimed = unitNumbered(unit);
        if (!claimed.isHere() || !claimed.isTested() || claimed.hasClaim()) {
            throw new IllegalStateException("no claim can be made for the unit");
        }
        history.save(desk);
        return desk.makeClaim(claimed) ? 1 : 0;
    }

    public int closePeriod() {
        history.save(desk);
        return desk.close();
    }

    // ---- texts

    public int append(int code) throws IllegalArgumentException, IllegalStateException {
        requireRange(code, 33, 126);
        if (buffer.length >= BUFFER_LENGTH) {
            throw new IllegalStateException("the buffer is full");
        }
        buffer.add(code);
        return buffer.length;
    }

    public int clearBuffer() {
        int length = buffer.length;
        buffer.clear();
        return length;
    }

    public int firstError() {
        return buffer.error == NONE ? buffer.length : buffer.error;
    }

    public int receiveAll() throws IllegalArgumentException, IllegalStateException {
        if (!buffer.isComplete()) {
            throw new IllegalArgumentException("the buffer is not complete returns as a text");
        }
        if (desk.unitCount + buffer.unitsInText() > UNITS) {
            throw new IllegalStateException("the desk has no room for so many units");
        }
        history.save(desk);
        buffer.putUnitsOn(desk);
        buffer.clear();
        return desk.unitCount;
    }

    public int undo() throws IllegalStateException {
        if (history.size <= 0) {
            throw new IllegalStateException("there is no saved state");
        }
        history.restore(desk);
        return history.size;
    }

    // ---- looks; nothing is changed

    public int unit(int unit, int what) throws IndexOutOfBoundsException, IllegalArgumentException {
        Unit seen = unitNumbered(unit);
        switch (what) {
            case 0: return seen.product;
            case 1: return seen.reason;
            case 2: return seen.scores[0];
            case 3: return seen.scores[1];
            case 4: return seen.scores[2];
            case 5: return seen.scores[3];
            case 6: return desk.gradeOf(seen);
            case 7: return seen.place;
            case 8: return desk.isHeld(seen) ? 1 : 0;
            case 9: return seen.visits;
            case 10: return seen.claim;
            case 11: return seen.claimPaid ? 1 : 0;
            case 12: return seen.brought;
            case 13: return seen.workCost;
            default: throw new IllegalArgumentException("no such property");
        }
    }

    public int productOf(int product, int what) throws IndexOutOfBoundsException, IllegalArgumentException {
        Product seen = productNumbered(product);
        switch (what) {
            case 0: return seen.cost;
            case 1: return seen.vendor;
            case 2: return seen.recalled ? 1 : 0;
            case 3: return desk.unitsOf(product, IN_STOCK, SENT_BACK);
            case 4: return desk.unitsOf(product, IN_STOCK, IN_WORKSHOP);
            case 5: return desk.unitsOf(product, SOLD, SOLD);
            default: throw new IllegalArgumentException("no such property");
        }
    }

    public int vendor(int vendor, int what) throws IndexOutOfBoundsException, IllegalArgumentException {
        Vendor seen = vendorNumbered(vendor);
        switch (what) {
            case 0: return seen.limit;
            case 1: return seen.paidInPeriod;
            case 2: return seen.paidForClaims;
            case 3: return seen.paidForUnits;
            case 4: return desk.claimsWaitingOn(vendor);
            case 5: return desk.amountWaitingOn(vendor);
            case 6: return seen.agreements[0];
            case 7: return seen.agreements[1];
            case 8: return seen.agreements[2];
            case 9: return seen.agreements[3];
            default: throw new IllegalArgumentException("no such number");
        }
    }

    public int inWorkshop(int place) throws IllegalArgumentException {
        requireRange(place, 0, UNITS - 1);
        return desk.numberAt(place, WORKSHOP_ORDER);
    }

    public int waiting(int place) throws IllegalArgumentException {
        requireRange(place, 0, UNITS - 1);
        return desk.numberAt(place, CLAIM_ORDER);
    }

    public int count(int what) throws IllegalArgumentException {
        switch (what) {
            case 0: return desk.unitCount;
            case 1: return desk.unitsIn(IN_STOCK);
            case 2: return desk.unitsIn(IN_WORKSHOP);
            case 3: return desk.unitsIn(SOLD);
            case 4: return desk.unitsIn(SCRAPPED);
            case 5: return desk.unitsIn(SENT_BACK);
            case 6: return desk.heldUnits();
            case 7: return desk.day;
            case 8: return desk.moneyBySales();
            case 9: return desk.moneyByVendors();
            case 10: return desk.workshopCost();
            case 11: return desk.periods;
            case 12: return desk.claims();
            case 13: return history.size;
            default: throw new IllegalArgumentException("no such number");
        }
    }

    public int setting(int setting) throws IndexOutOfBoundsException {
        if (!isIndex(setting, desk.settings.length)) {
            throw new IndexOutOfBoundsException("no such setting");
        }
        return desk.settings[setting];
    }

    // ---- what would be; nothing is changed

    public int whyNot(int unit, int route) throws IndexOutOfBoundsException, IllegalArgumentException {
        Unit seen = unitNumbered(unit);
        requireRange(route, IN_WORKSHOP, SENT_BACK);
        return desk.obstacle(seen, route);
    }

    public int ifRepaired(int unit, int what) throws IndexOutOfBoundsException, IllegalArgumentException {
        Unit seen = unitNumbered(unit);
        requireRange(what, 0, 2);
        if (!seen.isTested()) {
            return NONE;
        }
        switch (what) {
            case 0: return desk.repairedGradeOf(seen);
            case 1: return desk.repairCostOf(seen);
            default: return desk.priceOf(seen, desk.repairedGradeOf(seen));
        }
    }

    public int bestRoute(int unit) throws IndexOutOfBoundsException {
        Unit seen = unitNumbered(unit);
        int best = NONE;
        int most = 0;
        for (int route = IN_WORKSHOP; route <= SENT_BACK; route++) {
            if (desk.obstacle(seen, route) == 0) {
                int money = route == IN_WORKSHOP ? desk.moneyBehindWorkshop(seen) : desk.moneyOn(seen, route);
                if (best == NONE || money > most) {
                    best = route;
                    most = money;
                }
            }
        }
        return best;
    }

    public int ifClosed() {
        trial.copyFrom(desk);
        return trial.close();
    }

    public int claimable(int unit) throws IndexOutOfBoundsException {
        Unit seen = unitNumbered(unit);
        return seen.isTested() ? desk.claimAmount(seen) : NONE;
    }

    public int workDays() {
        int perDay = desk.settings[SETTING_PER_DAY];
        if (perDay < 1) {
            return 0;
        }
        return (desk.unitsToRepair() + perDay - 1) / perDay;
    }

    public double backShare() {
        int costs = desk.costOfAllUnits();
        if (costs <= 0) {
            return 0.0;
        }
        return (double) (desk.moneyBySales() + desk.moneyByVendors() - desk.workshopCost()) / costs;
    }

    public long digest() {
        long hash = 2477L;
        for (int what = 0; what <= 13; what++) {
            hash = 31 * hash + count(what);
        }
        for (int i = 0; i < desk.settings.length; i++) {
            hash = 31 * hash + desk.settings[i];
        }
        for (int i = 0; i < desk.unitCount; i++) {
            hash = withUnit(hash, i);
        }
        hash = withProductsAndVendors(hash);
        for (int place = 0; place <= 2; place++) {
            hash = 31 * hash + desk.numberAt(place, WORKSHOP_ORDER);
        }
        for (int place = 0; place <= 2; place++) {
            hash = 31 * hash + desk.numberAt(place, CLAIM_ORDER);
        }
        hash = 31 * hash + ifClosed();
        hash = 31 * hash + workDays();
        hash = 31 * hash + bitsOf(backShare());
        return buffer.withText(hash);
    }

    private long withUnit(long start, int unit) {
        long hash = start;
        for (int what = 0; what <= 13; what++) {
            hash = 31 * hash + unit(unit, what);
        }
        for (int route = IN_WORKSHOP; route <= SENT_BACK; route++) {
            hash = 31 * hash + whyNot(unit, route);
        }
        for (int what = 0; what <= 2; what++) {
            hash = 31 * hash + ifRepaired(unit, what);
        }
        hash = 31 * hash + bestRoute(unit);
        return 31 * hash + claimable(unit);
    }

    private long withProductsAndVendors(long start) {
        long hash = start;
        for (int product = 0; product < PRODUCTS; product++) {
            for (int what = 0; what <= 5; what++) {
                hash = 31 * hash + productOf(product, what);
            }
        }
        for (int vendor = 0; vendor < VENDORS; vendor++) {
            for (int what = 0; what <= 9; what++) {
                hash = 31 * hash + vendor(vendor, what);
            }
        }
        return hash;
    }

    /** The bits of a finite number that is not tiny, by arithmetic: the language has no Double.doubleToLongBits. */
    private static long bitsOf(double value) {
        if (value == 0.0) {
            return 0L;
        }
        double part = value < 0.0 ? -value : value;
        int exponent = 1023;
        for (int i = 0; i < 1023 && part >= 2.0; i++) {
            part = part / 2.0;
            exponent++;
        }
        for (int i = 0; i < 1023 && part < 1.0; i++) {
            part = part * 2.0;
            exponent--;
        }
        long fraction = (long) ((part - 1.0) * 4503599627370496.0);
        long bits = ((long) exponent << 52) | fraction;
        return value < 0.0 ? bits | SIGN_BIT : bits;
    }

    private static int lowestValue(int setting) {
        return setting == SETTING_PER_DAY ? 1 : 0;
    }

    private static int highestValue(int setting) {
        if (setting == SETTING_PER_DAY) {
            return HIGHEST_PER_DAY;
        }
        return setting == SETTING_POINT_COST ? HIGHEST_POINT_COST : HIGHEST_SUM;
    }

    private Unit unitNumbered(int unit) {
        if (!isIndex(unit, desk.unitCount) || !isIndex(unit, desk.units.length)) {
            throw new IndexOutOfBoundsException("no such unit");
        }
        return desk.units[unit];
    }

    private Product productNumbered(int product) {
        if (!isIndex(product, desk.products.length)) {
            throw new IndexOutOfBoundsException("no such product");
        }
        return desk.products[product];
    }

    private Vendor vendorNumbered(int vendor) {
        if (!isIndex(vendor, desk.vendors.length)) {
            throw new IndexOutOfBoundsException("no such vendor");
        }
        return desk.vendors[vendor];
    }

    private static void requireRange(int value, int lowest, int highest) {
        if (value < lowest || value > highest) {
            throw new IllegalArgumentException("a number is out of range");
        }
    }

    private static boolean isIndex(int index, int length) {
        return index >= 0 && index < length;
    }

    /** A number that a unit holds was tested when it came; this keeps the index in the array whatever it is. */
    private static int inside(int index, int length) {
        return index >= 0 && index < length ? index : 0;
    }

    private static void copyNumbers(int[] from, int[] to) {
        for (int i = 0; i < from.length && i < to.length; i++) {
            to[i] = from[i];
        }
    }

    private static final class Product {
        int cost = 100;
        int vendor;
        boolean recalled;

        void copyFrom(Product other) {
            cost = other.cost;
            vendor = other.vendor;
            recalled = other.recalled;
        }
    }

    private static final class Vendor {
        final int[] agreements = {50, 50, 50, 50};
        int limit = 1000;
        int paidInPeriod;
        int paidForClaims;
        int paidForUnits;

        boolean canPay(int amount) {
            return paidInPeriod + amount <= limit;
        }

        void payClaim(int amount) {
            paidInPeriod += amount;
            paidForClaims += amount;
        }

        void copyFrom(Vendor other) {
            copyNumbers(other.agreements, agreements);
            limit = other.limit;
            paidInPeriod = other.paidInPeriod;
            paidForClaims = other.paidForClaims;
            paidForUnits = other.paidForUnits;
        }
    }

    private static final class Unit {
        final int[] scores = {NONE, NONE, NONE, NONE};
        int product;
        int reason;
        int place;
        int visits;
        int claim;
        int claimVendor;
        boolean claimPaid;
        int brought;
        int workCost;

        /** Rows of units are used again after an undo, so nothing of an earlier unit may stay. */
        void begin(int itsProduct, int itsReason) {
            for (int i = 0; i < scores.length; i++) {
                scores[i] = NONE;
            }
            product = itsProduct;
            reason = itsReason;
            place = IN_STOCK;
            visits = 0;
            claim = NONE;
            claimVendor = 0;
            claimPaid = false;
            brought = 0;
            workCost = 0;
        }

        boolean isHere() {
            return place == IN_STOCK || place == IN_WORKSHOP;
        }

        boolean hasClaim() {
            return claim != NONE;
        }

        boolean isClaimWaiting() {
            return hasClaim() && !claimPaid;
        }

        boolean isTested() {
            return lowestScore() != NONE;
        }

        int lowestScore() {
            int lowest = HIGHEST_SCORE;
            for (int i = 0; i < scores.length; i++) {
                lowest = Math.min(lowest, scores[i]);
            }
            return lowest;
        }

        /** The sum of the scores, if each one below a least score was that. */
        int sumWithLeast(int least) {
            int sum = 0;
            for (int i = 0; i < scores.length; i++) {
                sum += Math.max(scores[i], least);
            }
            return sum;
        }

        void raiseScores(int least) {
            for (int i = 0; i < scores.length; i++) {
                scores[i] = Math.max(scores[i], least);
            }
        }

        void copyFrom(Unit other) {
            copyNumbers(other.scores, scores);
            product = other.product;
            reason = other.reason;
            place = other.place;
            visits = other.visits;
            claim = other.claim;
            claimVendor = other.claimVendor;
            claimPaid = other.claimPaid;
            brought = other.brought;
            workCost = other.workCost;
        }
    }

    /** All that undo restores, and the rules that go by it. */
    private static final class Desk {
        final Product[] products = new Product[PRODUCTS];
        final Vendor[] vendors = new Vendor[VENDORS];
        final Unit[] units = new Unit[UNITS];
        final int[] settings = {30, 20, 10, 2, 3};
        int unitCount;
        int day;
        int periods;

        Desk() {
            for (int i = 0; i < products.length; i++) {
                products[i] = new Product();
            }
            for (int i = 0; i < vendors.length; i++) {
                vendors[i] = new Vendor();
            }
            for (int i = 0; i < units.length; i++) {
                units[i] = new Unit();
            }
        }

        void copyFrom(Desk other) {
            for (int i = 0; i < products.length && i < other.products.length; i++) {
                products[i].copyFrom(other.products[i]);
            }
            for (int i = 0; i < vendors.length && i < other.vendors.length; i++) {
                vendors[i].copyFrom(other.vendors[i]);
            }
            unitCount = other.unitCount;
            for (int i = 0; i < unitCount && i < units.length && i < other.units.length; i++) {
                units[i].copyFrom(other.units[i]);
            }
            copyNumbers(other.settings, settings);
            day = other.day;
            periods = other.periods;
        }

        void addUnit(int product, int reason) {
            if (isIndex(unitCount, units.length)) {
                units[unitCount].begin(product, reason);
                unitCount++;
            }
        }

        /** Sets a score of the unit that came last. */
        void scoreLastUnit(int test, int score) {
            int last = unitCount - 1;
            if (isIndex(last, units.length) && isIndex(test, units[last].scores.length)) {
                units[last].scores[test] = score;
            }
        }

        Product productUnder(Unit unit) {
            return products[inside(unit.product, products.length)];
        }

        Vendor vendorUnder(int number) {
            return vendors[inside(number, vendors.length)];
        }

        boolean isHeld(Unit unit) {
            return unit.isHere() && productUnder(unit).recalled;
        }

        int gradeOf(Unit unit) {
            int lowest = unit.lowestScore();
            if (lowest == NONE) {
                return NONE;
            }
            int grade = gradeForSum(unit.sumWithLeast(0));
            return lowest == 0 ? Math.max(grade, GRADE_WITH_A_ZERO) : grade;
        }

        /** No score is 0 behind the workshop, so the sum alone tells this grade. */
        int repairedGradeOf(Unit unit) {
            return gradeForSum(unit.sumWithLeast(REPAIRED_SCORE));
        }

        int gradeForSum(int sum) {
            for (int grade = 0; grade < WORST_GRADE && grade < settings.length; grade++) {
                if (sum >= settings[grade]) {
                    return grade;
                }
            }
            return WORST_GRADE;
        }

        int repairCostOf(Unit unit) {
            int points = unit.sumWithLeast(REPAIRED_SCORE) - unit.sumWithLeast(0);
            return points * settings[SETTING_POINT_COST];
        }

        int priceOf(Unit unit, int grade) {
            int cost = productUnder(unit).cost;
            switch (grade) {
                case 0: return cost * 90 / 100;
                case 1: return cost * 70 / 100;
                case 2: return cost * 40 / 100;
                default: return 0;
            }
        }

        /** Why a unit cannot be sent on a route, numbered as for whyNot(). */
        int obstacle(Unit unit, int route) {
            if (unit.place != IN_STOCK) {
                return 1;
            }
            if (isHeld(unit) != (route == SENT_BACK)) {
                return 2;
            }
            if (route == SENT_BACK) {
                return 0;
            }
            int grade = gradeOf(unit);
            if (grade == NONE) {
                return 3;
            }
            if (route == IN_WORKSHOP && grade == 0 || route == SOLD && grade == WORST_GRADE) {
                return 4;
            }
            return route == IN_WORKSHOP && unit.visits >= MOST_VISITS ? 5 : 0;
        }

        /** What a unit brings at once on a route that it can take. */
        int moneyOn(Unit unit, int route) {
            if (route == SOLD) {
                return priceOf(unit, gradeOf(unit));
            }
            return route == SENT_BACK ? productUnder(unit).cost : 0;
        }

        int moneyBehindWorkshop(Unit unit) {
            return priceOf(unit, repairedGradeOf(unit)) - repairCostOf(unit);
        }

        int move(Unit unit, int route) {
            int money = moneyOn(unit, route);
            if (route == SENT_BACK) {
                vendorUnder(productUnder(unit).vendor).paidForUnits += money;
            }
            if (route == IN_WORKSHOP) {
                unit.visits++;
            }
            unit.brought = money;
            unit.place = route;
            return money;
        }

        /** Lets a day pass, and returns what the workshop costs in it. */
        int nextDay() {
            day++;
            int cost = 0;
            for (int i = 0; i < settings[SETTING_PER_DAY]; i++) {
                int number = numberOfRank(nextRank(ABOVE_ALL_RANKS, WORKSHOP_ORDER_NOT_HELD));
                if (!isIndex(number, units.length)) {
                    return cost;
                }
                cost += repair(units[number]);
            }
            return cost;
        }

        int repair(Unit unit) {
            int cost = repairCostOf(unit);
            unit.raiseScores(REPAIRED_SCORE);
            unit.workCost += cost;
            unit.place = IN_STOCK;
            return cost;
        }

        int claimAmount(Unit unit) {
            Product product = productUnder(unit);
            int[] agreements = vendorUnder(product.vendor).agreements;
            int full = product.cost * agreements[inside(unit.reason, agreements.length)] / 100;
            return full * gradeOf(unit) / 3;
        }

        boolean makeClaim(Unit unit) {
            unit.claim = claimAmount(unit);
            unit.claimVendor = productUnder(unit).vendor;
            unit.claimPaid = payIfPossible(unit);
            return unit.claimPaid;
        }

        boolean payIfPossible(Unit unit) {
            Vendor vendor = vendorUnder(unit.claimVendor);
            if (!vendor.canPay(unit.claim)) {
                return false;
            }
            vendor.payClaim(unit.claim);
            return true;
        }

        /** Closes the period, and returns what is paid for the claims that waited. */
        int close() {
            periods++;
            for (int i = 0; i < vendors.length; i++) {
                vendors[i].paidInPeriod = 0;
            }
            int paid = 0;
            int rank = ABOVE_ALL_RANKS;
            for (int i = 0; i < unitCount; i++) {
                rank = nextRank(rank, CLAIM_ORDER);
                int number = numberOfRank(rank);
                if (!isIndex(number, units.length)) {
                    return paid;
                }
                units[number].claimPaid = payIfPossible(units[number]);
                paid += units[number].claimPaid ? units[number].claim : 0;
            }
            return paid;
        }

        /** The number of the unit at a place of an order; NONE if there are not so many. */
        int numberAt(int place, int order) {
            int rank = nextRank(ABOVE_ALL_RANKS, order);
            for (int i = 0; i < place && rank != NONE; i++) {
                rank = nextRank(rank, order);
            }
            return numberOfRank(rank);
        }

        /** The greatest rank of an order below another one; NONE if there is none. */
        int nextRank(int below, int order) {
            int next = NONE;
            for (int i = 0; i < unitCount && i < units.length; i++) {
                int rank = rankOf(i, units[i], order);
                if (rank > next && rank < below) {
                    next = rank;
                }
            }
            return next;
        }

        /** One number for all that an order looks at, greatest first; NONE for a unit that is not in it. */
        int rankOf(int number, Unit unit, int order) {
            int lead;
            if (order == CLAIM_ORDER) {
                if (!unit.isClaimWaiting()) {
                    return NONE;
                }
                lead = unit.claim;
            } else {
                if (unit.place != IN_WORKSHOP || order == WORKSHOP_ORDER_NOT_HELD && isHeld(unit)) {
                    return NONE;
                }
                lead = gradeOf(unit) * (HIGHEST_COST + 1) + productUnder(unit).cost;
            }
            return lead * UNITS + (UNITS - 1 - number);
        }

        int numberOfRank(int rank) {
            return rank < 0 ? NONE : UNITS - 1 - rank % UNITS;
        }

        int heldUnits() {
            int held = 0;
            for (int i = 0; i < unitCount && i < units.length; i++) {
                held += isHeld(units[i]) ? 1 : 0;
            }
            return held;
        }

        int unitsToRepair() {
            int found = 0;
            for (int i = 0; i < unitCount && i < units.length; i++) {
                found += units[i].place == IN_WORKSHOP && !isHeld(units[i]) ? 1 : 0;
            }
            return found;
        }

        int unitsIn(int place) {
            int found = 0;
            for (int i = 0; i < unitCount && i < units.length; i++) {
                found += units[i].place == place ? 1 : 0;
            }
            return found;
        }

        /** Units of a product in the places from a first to a last one. */
        int unitsOf(int product, int first, int last) {
            int found = 0;
            for (int i = 0; i < unitCount && i < units.length; i++) {
                Unit unit = units[i];
                found += unit.product == product && unit.place >= first && unit.place <= last ? 1 : 0;
            }
            return found;
        }

        int claims() {
            int made = 0;
            for (int i = 0; i < unitCount && i < units.length; i++) {
                made += units[i].hasClaim() ? 1 : 0;
            }
            return made;
        }

        int claimsWaitingOn(int vendor) {
            int found = 0;
            for (int i = 0; i < unitCount && i < units.length; i++) {
                found += units[i].isClaimWaiting() && units[i].claimVendor == vendor ? 1 : 0;
            }
            return found;
        }

        int amountWaitingOn(int vendor) {
            int amount = 0;
            for (int i = 0; i < unitCount && i < units.length; i++) {
                amount += units[i].isClaimWaiting() && units[i].claimVendor == vendor ? units[i].claim : 0;
            }
            return amount;
        }

        int moneyBySales() {
            int money = 0;
            for (int i = 0; i < unitCount && i < units.length; i++) {
                money += units[i].place == SOLD ? units[i].brought : 0;
            }
            return money;
        }

        int moneyByVendors() {
            int money = 0;
            for (int i = 0; i < vendors.length; i++) {
                money += vendors[i].paidForClaims + vendors[i].paidForUnits;
            }
            return money;
        }

        int workshopCost() {
            int cost = 0;
            for (int i = 0; i < unitCount && i < units.length; i++) {
                cost += units[i].workCost;
            }
            return cost;
        }

        int costOfAllUnits() {
            int cost = 0;
            for (int i = 0; i < unitCount && i < units.length; i++) {
                cost += productUnder(units[i]).cost;
            }
            return cost;
        }
    }

    /** The saved states, the oldest first. Their rows are made once and used again. */
    private static final class History {
        final Desk[] states = new Desk[SAVED_STATES];
        int size;

        History() {
            for (int i = 0; i < states.length; i++) {
                states[i] = new Desk();
            }
        }

        void save(Desk desk) {
            if (size >= states.length) {
                dropOldest();
            }
            if (isIndex(size, states.length)) {
                states[size].copyFrom(desk);
                size++;
            }
        }

        /** Takes the row of the oldest state to the end, to be used again. */
        void dropOldest() {
            Desk oldest = states[0];
            for (int i = 0; i + 1 < states.length; i++) {
                states[i] = states[i + 1];
            }
            states[states.length - 1] = oldest;
            size--;
        }

        void restore(Desk desk) {
            int latest = size - 1;
            if (isIndex(latest, states.length)) {
                desk.copyFrom(states[latest]);
                size = latest;
            }
        }
    }

    /** The input text. What may come next is kept up while it grows. */
    private static final class Buffer {
        private static final int EXPECTS_P = 0;
        private static final int EXPECTS_PRODUCT = 1;
        private static final int EXPECTS_R = 2;
        private static final int EXPECTS_REASON = 3;
        private static final int BEHIND_REASON = 4;
        private static final int EXPECTS_SCORE = 5;
        private static final int BEHIND_SCORES = EXPECTS_SCORE + TESTS;

        final int[] codes = new int[BUFFER_LENGTH];
        int length;
        int error = NONE;
        int state = EXPECTS_P;

        void clear() {
            length = 0;
            error = NONE;
            state = EXPECTS_P;
        }

        void add(int code) {
            if (!isIndex(length, codes.length)) {
                return;
            }
            if (error == NONE) {
                state = stateBehind(state, code);
                error = state == NONE ? length : NONE;
            }
            codes[length] = code;
            length++;
        }

        /** What comes next behind a character; NONE if the character is an error. */
        static int stateBehind(int before, int code) {
            switch (before) {
                case EXPECTS_P: return code == 'p' ? EXPECTS_PRODUCT : NONE;
                case EXPECTS_PRODUCT: return isDigitBelow(PRODUCTS, code) ? EXPECTS_R : NONE;
                case EXPECTS_R: return code == 'r' ? EXPECTS_REASON : NONE;
                case EXPECTS_REASON: return isDigitBelow(REASONS, code) ? BEHIND_REASON : NONE;
                case BEHIND_REASON:
                    if (code == ':') {
                        return EXPECTS_SCORE;
                    }
                    return code == ';' ? EXPECTS_P : NONE;
                case BEHIND_SCORES: return code == ';' ? EXPECTS_P : NONE;
                default: return isDigitBelow(HIGHEST_SCORE + 1, code) ? before + 1 : NONE;
            }
        }

        static boolean isDigitBelow(int bound, int code) {
            return code >= '0' && code < '0' + bound;
        }

        boolean isComplete() {
            return state == BEHIND_REASON || state == BEHIND_SCORES;
        }

        /** How many units a complete text has. */
        int unitsInText() {
            int found = 1;
            for (int i = 0; i < length && i < codes.length; i++) {
                found += codes[i] == ';' ? 1 : 0;
            }
            return found;
        }

        /** Puts the units of a complete text on a desk. */
        void putUnitsOn(Desk desk) {
            int product = 0;
            int at = EXPECTS_P;
            for (int i = 0; i < length && i < codes.length; i++) {
                int digit = codes[i] - '0';
                if (at == EXPECTS_PRODUCT) {
                    product = digit;
                } else if (at == EXPECTS_REASON) {
                    desk.addUnit(product, digit);
                } else if (at >= EXPECTS_SCORE && at < BEHIND_SCORES) {
                    desk.scoreLastUnit(at - EXPECTS_SCORE, digit);
                }
                at = stateBehind(at, codes[i]);
            }
        }

        long withText(long start) {
            long hash = 31 * start + length;
            for (int i = 0; i < length && i < codes.length; i++) {
                hash = 31 * hash + codes[i];
            }
            return hash;
        }
    }
}
