import java.util.Arrays;

/**
 * Frost bids for windows: panes of cells on which frost grows hour by hour by
 * cold, warmth and what is frozen beside; the pattern is a pane's offer, which
 * is taken by a breath. Words in capitals are the document's.
 */
public final class FrostBids {
    public static final int NONE = -1, BAD = -2, STATE = -3, FULL = -4;
    /** There is no such number. */
    public static final long NO = Long.MIN_VALUE;

    private static final int NOT_FOUND = -5, OTHER_KIND = -6, NO_GROWTH = -999999;
    private static final int NOBODY = -1, NO_BREATH = 9;
    private static final int CELLS = 12, ALL_CELLS = 4095;
    private static final int MOST_PANES = 6, MOST_TOWNS = 5, MOST_SIGNS = 100, MOST_CLAUSES = 10;
    private static final int MOST_SEEN = 5, MOST_PLANNED = 8, MOST_BOOKED = 8, MOST_TRACED = 20;
    private static final int MOST_OPEN = 5, LAST_KIND = 6, LAST_DIGIT = 9;
    private static final int MOST_COLD = 20, MOST_PAID = 999999, LAST_HOUR = 9999;
    private static final int FAR_HOURS = 60, NEAR_HOURS = 20, MOST_BREATHS = 3, MOST_WANTED = 999;
    private static final int NO_FAULT = -1, NO_SIGN = -1;

    private final Pane[] panes = new Pane[MOST_PANES];
    private final Course[] courses = new Course[MOST_PANES];
    private int paneCount = 0;
    private final Town bareTown = new Town();
    private final Town[] towns = new Town[MOST_TOWNS];
    private int townCount = 0;
    private final Rows tape = new Rows(MOST_SIGNS);
    private final Reader reader = new Reader();
    private int coldNow = 5;
    private int paidNow = 0;
    private int hourNow = 0;
    private final Rows seenRows = new Rows(MOST_SEEN);
    private final Rows planRows = new Rows(MOST_PLANNED);
    private final Rows bookRows = new Rows(MOST_BOOKED);
    private final Rows bodies = new Rows(MOST_TRACED);
    /** The numbers of THE IMAGE that no part keeps by itself; empty while there is no image. */
    private final Rows keptNumbers = new Rows(2);
    /** What each pane pays, by the hours ahead of which it is breathed on, as bits. */
    private final int[] pays = new int[MOST_PANES << MOST_BREATHS];

    public FrostBids() {
        for (int i = 0; i < MOST_TOWNS; i++) {
            towns[i] = new Town();
        }
    }

    // ---- towns, panes

    public int feed(int sign) {
        if (!isWithin(sign, 127)) {
            return BAD;
        }
        if (tape.isFull()) {
            return FULL;
        }
        tape.add(sign, 0, 0);
        return tape.size();
    }

    public int town() {
        if (townCount >= MOST_TOWNS) {
            return FULL;
        }
        int fault = reader.readInto(towns[townCount], tape);
        tape.clear();
        if (fault != NO_FAULT) {
            return -10 - fault;
        }
        townCount++;
        return townCount - 1;
    }

    public int pane(int kind, int v, int warm) {
        if (!isWithin(kind, LAST_KIND)) {
            return NONE;
        }
        if (!isWithin(v, LAST_DIGIT) || !isWithin(warm, LAST_DIGIT)) {
            return BAD;
        }
        if (paneCount >= MOST_PANES) {
            return FULL;
        }
        Pane added = newPane(kind, v, warm);
        panes[paneCount] = added;
        courses[paneCount] = new Course(added, bareTown);
        paneCount++;
        return paneCount - 1;
    }

    public int of(int pane, int what) {
        if (!isPane(pane)) {
            return NONE;
        }
        Pane one = panes[pane];
        switch (what) {
            case 0: return one.kind;
            case 1: return one.v;
            case 2: return one.warm;
            case 3: return one.ice;
            case 4: return one.isShut ? 1 : 0;
            case 5: return heldTown().offerOf(one.ice);
            default: return NONE;
        }
    }

    public int grows(int pane, int cell) {
        if (!isPane(pane) || !isWithin(cell, CELLS - 1)) {
            return NO_GROWTH;
        }
        return courseFromNow(pane, coldNow).growthAt(cell);
    }

    public int row(int pane, int k, int n) {
        if (!isPane(pane) || !isWithin(k, Told.LAST_PLACE)) {
            return NONE;
        }
        if (!isWithin(n, LAST_DIGIT)) {
            return BAD;
        }
        if (panes[pane] instanceof Told told) {
            return told.change(k, n);
        }
        return STATE;
    }

    public int set(int pane, int what, int n) {
        if (!isPane(pane) || !isWithin(what, 1)) {
            return NONE;
        }
        if (!isWithin(n, what == 0 ? LAST_DIGIT : ALL_CELLS)) {
            return BAD;
        }
        Pane one = panes[pane];
        int was = what == 0 ? one.warm : one.ice;
        if (what == 0) {
            one.warm = n;
        } else {
            one.ice = n;
        }
        return was;
    }

    public int cold(int n) {
        if (!isWithin(n, MOST_COLD)) {
            return BAD;
        }
        int was = coldNow;
        coldNow = n;
        return was;
    }

    public int shut(int pane, boolean is) {
        if (!isPane(pane)) {
            return NONE;
        }
        boolean was = panes[pane].isShut;
        panes[pane].isShut = is;
        return was ? 1 : 0;
    }

    public int breathe(int pane) {
        if (!isPane(pane)) {
            return NONE;
        }
        int offer = heldTown().offerOf(panes[pane].ice);
        paidNow = Math.min(MOST_PAID, paidNow + offer);
        panes[pane].ice = 0;
        return offer;
    }

    public int told(int what) {
        switch (what) {
            case 0: return hourNow;
            case 1: return coldNow;
            case 2: return heldTown().fern;
            case 3: return heldTown().tower;
            case 4: return paidNow;
            case 5: return offersBehind(0);
            case 6: return shutPanes();
            default: return NONE;
        }
    }

    public int pass(int n) {
        if (!isWithin(n, FAR_HOURS)) {
            return BAD;
        }
        if (hourNow + n > LAST_HOUR) {
            return STATE;
        }
        for (int i = 0; i < paneCount; i++) {
            panes[i].ice = iceBehind(i, n);
        }
        hourNow += n;
        return hourNow;
    }

    // ---- hours to come

    public int on(int n, int what) {
        boolean ofAll = what == 0;
        if (!ofAll && (what < 10 || !isPane(what - 10))) {
            return NONE;
        }
        if (!isWithin(n, FAR_HOURS)) {
            return BAD;
        }
        return ofAll ? offersBehind(n) : iceBehind(what - 10, n);
    }

    public int best(int pane, int n, int what) {
        if (!isPane(pane) || !isWithin(what, 1)) {
            return NONE;
        }
        if (!isWithin(n, NEAR_HOURS)) {
            return BAD;
        }
        Course course = courseFromNow(pane, coldNow);
        int bestHours = 0;
        int bestOffer = course.offer();
        for (int hours = 1; hours <= n; hours++) {
            course.goHour();
            if (course.offer() > bestOffer) {
                bestHours = hours;
                bestOffer = course.offer();
            }
        }
        return what == 0 ? bestHours : bestOffer;
    }

    public int heat(int pane, int n, int what) {
        if (!isPane(pane) || !isWithin(what, 1)) {
            return NONE;
        }
        if (!isWithin(n, NEAR_HOURS)) {
            return BAD;
        }
        int bestWarm = 0;
        int bestOffer = -1;
        for (int warm = 0; warm <= LAST_DIGIT; warm++) {
            Course course = courseFromNow(pane, coldNow);
            course.warm = warm;
            course.goHours(n);
            if (course.offer() > bestOffer) {
                bestWarm = warm;
                bestOffer = course.offer();
            }
        }
        return what == 0 ? bestWarm : bestOffer;
    }

    public int comes(int pane, int ice) {
        if (!isPane(pane)) {
            return NONE;
        }
        if (!isWithin(ice, ALL_CELLS)) {
            return BAD;
        }
        Course course = courseFromNow(pane, coldNow);
        for (int hours = 0; hours <= FAR_HOURS; hours++) {
            if (course.ice == ice) {
                return hours;
            }
            course.goHour();
        }
        return NOT_FOUND;
    }

    public int breaths(int n, int k) {
        if (k < -1 || k >= MOST_BREATHS) {
            return NONE;
        }
        if (n < 1 || n > MOST_BREATHS) {
            return BAD;
        }
        if (k >= n) {
            return NOT_FOUND;
        }
        fillPays(n);
        int bestRow = 0;
        int mostPaid = -1;
        int rows = rowsOfBreaths(n);
        for (int row = 0; row < rows; row++) {
            int paid = paidByRow(row, n);
            if (paid > mostPaid) {
                bestRow = row;
                mostPaid = paid;
            }
        }
        if (k < 0) {
            return mostPaid;
        }
        int breathed = breathedAt(bestRow, k, n);
        return breathed < paneCount ? breathed : NO_BREATH;
    }

    // ---- seen, odds; part 0 above, 1 below the line

    public int see(int pane, int n, int ice) {
        if (pane == NOBODY) {
            return seenRows.clear();
        }
        if (!isPane(pane)) {
            return NONE;
        }
        if (!isWithin(n, NEAR_HOURS) || !isWithin(ice, ALL_CELLS)) {
            return BAD;
        }
        return seenRows.isFull() ? FULL : seenRows.add(pane, n, ice);
    }

    public int colds(int what) {
        if (!isWithin(what, 1)) {
            return NONE;
        }
        int many = 0;
        int least = NOT_FOUND;
        for (int cold = MOST_COLD; cold >= 0; cold--) {
            if (isSeenSo(cold, NOBODY, 0, 0)) {
                many++;
                least = cold;
            }
        }
        return what == 0 ? many : least;
    }

    public int warms(int pane) {
        if (!isPane(pane)) {
            return NONE;
        }
        int found = 0;
        for (int warm = 0; warm <= LAST_DIGIT; warm++) {
            if (isSeenSo(coldNow, pane, warm, panes[pane].v)) {
                found |= 1 << warm;
            }
        }
        return found;
    }

    public int firm(int pane, int what) {
        if (!isPane(pane) || !isWithin(what, 1)) {
            return NONE;
        }
        int many = 0;
        int least = NOT_FOUND;
        for (int v = LAST_DIGIT; v >= 0; v--) {
            if (isSeenSo(coldNow, pane, panes[pane].warm, v)) {
                many++;
                least = v;
            }
        }
        return what == 0 ? many : least;
    }

    public long odds(int pane, int n, int q, int part) {
        if (!isPane(pane) || !isWithin(n, FAR_HOURS) || !isWithin(q, MOST_WANTED) || !isWithin(part, 1)) {
            return NO;
        }
        int good = 0;
        for (int cold = 0; cold <= MOST_COLD; cold++) {
            Course course = courseFromNow(pane, cold);
            course.goHours(n);
            if (course.offer() >= q) {
                good++;
            }
        }
        return partOf(good, MOST_COLD + 1, part);
    }

    public long mean(int part) {
        if (!isWithin(part, 1) || paneCount == 0) {
            return NO;
        }
        return partOf(offersBehind(0), paneCount, part);
    }

    // ---- plans, books

    public int plan(int what, int pane) {
        if (what == NOBODY) {
            return planRows.clear();
        }
        if (!isWithin(what, 3) || (what != 0 && !isPane(pane))) {
            return NONE;
        }
        return planRows.isFull() ? FULL : planRows.add(what, pane, 0);
    }

    public int done(int what) {
        if (!isWithin(what, 1)) {
            return NONE;
        }
        int paid = paidNow;
        int offers = 0;
        for (int i = 0; i < paneCount; i++) {
            Course course = courseFromNow(i, coldNow);
            paid += course.goPlan(planRows);
            offers += course.offer();
        }
        return what == 0 ? paid : offers;
    }

    public int book(int pane, int ice) {
        if (pane == NOBODY) {
            return bookRows.clear();
        }
        if (!isPane(pane)) {
            return NONE;
        }
        if (!isWithin(ice, ALL_CELLS)) {
            return BAD;
        }
        return bookRows.isFull() ? FULL : bookRows.add(pane, ice, 0);
    }

    public int looked() {
        for (int i = 0; i < bookRows.size(); i++) {
            int pane = bookRows.at(i, 0);
            if (isPane(pane) && panes[pane].ice != bookRows.at(i, 1)) {
                return i;
            }
        }
        return NOT_FOUND;
    }

    // ---- acts, the image

    public int act(int pane, int act, int x) {
        bodies.clear();
        if (!isPane(pane)) {
            return 0;
        }
        switch (act) {
            case 0: return panes[pane].drips(x);
            case 1: return panes[pane].creaks(x);
            case 2: return panes[pane].shines(x);
            default: return 0;
        }
    }

    public int trace(int i) {
        return isWithin(i, bodies.size() - 1) ? bodies.at(i, 0) : NONE;
    }

    public int as(int pane, int k) {
        if (!isPane(pane) || !isWithin(k, LAST_KIND)) {
            return NONE;
        }
        return isTakenFor(panes[pane], k) ? panes[pane].v : OTHER_KIND;
    }

    public int image() {
        for (int i = 0; i < paneCount; i++) {
            panes[i].keep();
        }
        tape.keep();
        seenRows.keep();
        planRows.keep();
        bookRows.keep();
        keptNumbers.clear();
        keptNumbers.add(paneCount, townCount, 0);
        keptNumbers.add(coldNow, paidNow, hourNow);
        return paneCount;
    }

    // Since panes and towns only ever come behind those of the image, the places that the
    // image counts still hold the same panes and towns: counts and kept numbers suffice.
    public int undo() {
        if (keptNumbers.size() == 0) {
            return STATE;
        }
        paneCount = keptNumbers.at(0, 0);
        townCount = keptNumbers.at(0, 1);
        coldNow = keptNumbers.at(1, 0);
        paidNow = keptNumbers.at(1, 1);
        hourNow = keptNumbers.at(1, 2);
        for (int i = 0; i < paneCount; i++) {
            panes[i].takeBack();
        }
        tape.takeBack();
        seenRows.takeBack();
        planRows.takeBack();
        bookRows.takeBack();
        return paneCount;
    }

    public int count(int what) {
        switch (what) {
            case 0: return paneCount;
            case 1: return townCount;
            case 2: return seenRows.size();
            case 3: return planRows.size();
            case 4: return bookRows.size();
            case 5: return tape.size();
            case 6: return bodies.came;
            default: return NONE;
        }
    }

    // ---- what the calls share

    private static boolean isWithin(int n, int most) {
        return n >= 0 && n <= most;
    }

    private boolean isPane(int n) {
        return isWithin(n, paneCount - 1);
    }

    private Town heldTown() {
        return isWithin(townCount - 1, MOST_TOWNS - 1) ? towns[townCount - 1] : bareTown;
    }

    private Pane newPane(int kind, int v, int warm) {
        switch (kind) {
            case 1: return new Kitchen(kind, paneCount, v, warm, bodies);
            case 2: return new Nursery(kind, paneCount, v, warm, bodies);
            case 3: return new Rectory(kind, paneCount, v, warm, bodies);
            case 4: return new Jail(kind, paneCount, v, warm, bodies);
            case 5: return new Church(kind, paneCount, v, warm, bodies);
            case 6: return new Told(kind, paneCount, v, warm, bodies);
            default: return new Pane(kind, paneCount, v, warm, bodies);
        }
    }

    private static boolean isTakenFor(Pane one, int kind) {
        switch (kind) {
            case 0: return true;
            case 1: return one instanceof Kitchen;
            case 2: return one instanceof Nursery;
            case 3: return one instanceof Rectory;
            case 4: return one instanceof Jail;
            case 5: return one instanceof Church;
            default: return one instanceof Told;
        }
    }

    private int shutPanes() {
        int found = 0;
        for (int i = 0; i < paneCount; i++) {
            if (panes[i].isShut) {
                found |= 1 << i;
            }
        }
        return found;
    }

    /** The course of one of PANES, set anew to how all is, but for COLD. */
    private Course courseFromNow(int pane, int cold) {
        Course course = courses[pane];
        course.start(heldTown(), cold, hourNow);
        return course;
    }

    private int iceBehind(int pane, int hours) {
        Course course = courseFromNow(pane, coldNow);
        course.goHours(hours);
        return course.ice;
    }

    private int offersBehind(int hours) {
        int offers = 0;
        for (int i = 0; i < paneCount; i++) {
            Course course = courseFromNow(i, coldNow);
            course.goHours(hours);
            offers += course.offer();
        }
        return offers;
    }

    /** Whether all of SEEN is so by that COLD, the pane who (or NOBODY) being so warm and of that v. */
    private boolean isSeenSo(int cold, int who, int warm, int v) {
        for (int i = 0; i < seenRows.size(); i++) {
            int pane = seenRows.at(i, 0);
            if (!isPane(pane)) {
                return false;
            }
            Course course = courseFromNow(pane, cold);
            if (pane == who) {
                course.warm = warm;
                course.v = v;
            }
            course.goHours(seenRows.at(i, 1));
            if (course.ice != seenRows.at(i, 2)) {
                return false;
            }
        }
        return true;
    }

    // No pane grows by another's frost, so what one pays hangs on nothing but
    // the hours ahead of which it is breathed on itself.
    private void fillPays(int hours) {
        for (int pane = 0; pane < paneCount; pane++) {
            for (int breathed = 0; breathed < 1 << hours; breathed++) {
                Course course = courseFromNow(pane, coldNow);
                pays[(pane << MOST_BREATHS) + breathed] = course.goBreathed(hours, breathed);
            }
        }
    }

    private int rowsOfBreaths(int hours) {
        int rows = 1;
        for (int i = 0; i < hours; i++) {
            rows *= paneCount + 1;
        }
        return rows;
    }

    /** Which pane a row of breaths has at hour k; paneCount stands for none, so that rows lie in their order. */
    private int breathedAt(int row, int k, int hours) {
        int rest = row;
        for (int i = hours - 1; i > k; i--) {
            rest /= paneCount + 1;
        }
        return rest % (paneCount + 1);
    }

    private int paidByRow(int row, int hours) {
        int paid = 0;
        for (int pane = 0; pane < paneCount; pane++) {
            int breathed = 0;
            for (int k = 0; k < hours; k++) {
                if (breathedAt(row, k, hours) == pane) {
                    breathed |= 1 << k;
                }
            }
            paid += pays[(pane << MOST_BREATHS) + breathed];
        }
        return paid;
    }

    /** A part of a fraction in lowest terms; below is above 0. */
    private static long partOf(int above, int below, int part) {
        int told = part == 0 ? above : below;
        for (int common = below; common > 1; common--) {
            if (above % common == 0 && below % common == 0) {
                return told / common;
            }
        }
        return told;
    }

    // ---- KINDs of panes

    /** One of PANES, and what it does where its KIND tells nothing else. */
    private static class Pane {
        final int kind, number, v;
        int warm;
        int ice = 0;
        boolean isShut = false;
        private int keptWarm = 0;
        private int keptIce = 0;
        private boolean wasShut = false;
        /** THE TRACE. */
        final Rows bodies;

        Pane(int kind, int number, int v, int warm, Rows bodies) {
            this.kind = kind;
            this.number = number;
            this.v = v;
            this.warm = warm;
            this.bodies = bodies;
        }

        /** GROWS at a cell (0 .. 11) by the numbers of a course. */
        int growth(Course course, int cell) {
            return course.bites[cell];
        }

        int drips(int x) {
            bodies.add(1, 0, 0);
            return x + number;
        }

        int creaks(int x) {
            bodies.add(2, 0, 0);
            return drips(x) - v;
        }

        int shines(int x) {
            bodies.add(3, 0, 0);
            return creaks(x) * 2;
        }

        void keep() {
            keptWarm = warm;
            keptIce = ice;
            wasShut = isShut;
        }

        void takeBack() {
            warm = keptWarm;
            ice = keptIce;
            isShut = wasShut;
        }
    }

    private static class Kitchen extends Pane {
        Kitchen(int kind, int number, int v, int warm, Rows bodies) {
            super(kind, number, v, warm, bodies);
        }

        int growth(Course course, int cell) {
            int less = course.hour % 4 == 0 ? course.v : 0;
            return super.growth(course, cell) - less;
        }

        int drips(int x) {
            bodies.add(11, 0, 0);
            return super.drips(x * 3);
        }
    }

    private static class Nursery extends Pane {
        Nursery(int kind, int number, int v, int warm, Rows bodies) {
            super(kind, number, v, warm, bodies);
        }

        int growth(Course course, int cell) {
            return super.growth(course, cell) / 2;
        }

        int creaks(int x) {
            bodies.add(21, 0, 0);
            return -super.creaks(x);
        }
    }

    private static class Rectory extends Pane {
        Rectory(int kind, int number, int v, int warm, Rows bodies) {
            super(kind, number, v, warm, bodies);
        }

        int growth(Course course, int cell) {
            return super.growth(course, cell) + 2 * course.frozenBeside(cell);
        }

        int shines(int x) {
            bodies.add(31, 0, 0);
            return super.shines(x) ^ 7;
        }
    }

    private static final class Jail extends Kitchen {
        Jail(int kind, int number, int v, int warm, Rows bodies) {
            super(kind, number, v, warm, bodies);
        }

        int growth(Course course, int cell) {
            return cell % 3 == 2 ? 0 : super.growth(course, cell);
        }

        int shines(int x) {
            bodies.add(41, 0, 0);
            return super.shines(x - 1) + drips(2);
        }
    }

    private static final class Church extends Nursery {
        Church(int kind, int number, int v, int warm, Rows bodies) {
            super(kind, number, v, warm, bodies);
        }

        int growth(Course course, int cell) {
            return super.growth(course, cell) + course.v;
        }

        int drips(int x) {
            bodies.add(51, 0, 0);
            return super.drips(x) ^ number;
        }
    }

    private static final class Told extends Rectory {
        static final int LAST_PLACE = 3;
        private final int[] places = new int[LAST_PLACE + 1];
        private final int[] keptPlaces = new int[LAST_PLACE + 1];

        Told(int kind, int number, int v, int warm, Rows bodies) {
            super(kind, number, v, warm, bodies);
        }

        /** The place (0 .. 3) of the ROW becomes n: what it was. */
        int change(int place, int n) {
            int was = places[place];
            places[place] = n;
            return was;
        }

        int growth(Course course, int cell) {
            return super.growth(course, cell) + places[cell % 4] - 4;
        }

        int creaks(int x) {
            bodies.add(61, 0, 0);
            return super.creaks(x) + v;
        }

        void keep() {
            super.keep();
            System.arraycopy(places, 0, keptPlaces, 0, places.length);
        }

        void takeBack() {
            super.takeBack();
            System.arraycopy(keptPlaces, 0, places, 0, places.length);
        }
    }

    // ---- hours of one pane

    /**
     * How one pane goes on from now, by numbers that may be other than its own:
     * all that is asked runs here, so that the pane itself stays as it is.
     */
    private static final class Course {
        private static final int MELTING = -10;
        /** A clause with all its ! and ( open needs no more places than that. */
        private static final int STACK = 16;
        private final Pane one;
        private Town town;
        private int cold = 0;
        int warm = 0;
        int v = 0;
        int hour = 0;
        int ice = 0;
        private boolean isShut = false;
        final int[] bites = new int[CELLS];
        private final int[] stack = new int[STACK];

        Course(Pane one, Town town) {
            this.one = one;
            this.town = town;
        }

        void start(Town held, int coldThen, int hourThen) {
            town = held;
            cold = coldThen;
            hour = hourThen;
            warm = one.warm;
            v = one.v;
            ice = one.ice;
            isShut = one.isShut;
        }

        int offer() {
            return town.offerOf(ice);
        }

        int frozenBeside(int cell) {
            return (ice << 1 >> cell & 1) + (ice >> 1 >> cell & 1);
        }

        /** GROWS at a cell (0 .. 11) this hour. */
        int growthAt(int cell) {
            fillBites();
            return one.growth(this, cell);
        }

        void goHours(int n) {
            for (int i = 0; i < n; i++) {
                goHour();
            }
        }

        void goHour() {
            if (!isShut) {
                fillBites();
                int next = ice;
                for (int cell = 0; cell < CELLS; cell++) {
                    int growth = one.growth(this, cell);
                    boolean isFrozen = (ice >> cell & 1) != 0;
                    if (isFrozen && growth <= MELTING) {
                        next &= ~(1 << cell);
                    } else if (!isFrozen && growth > 0 && (cell == 0 || frozenBeside(cell) > 0)) {
                        next |= 1 << cell;
                    }
                }
                ice = next;
            }
            hour++;
        }

        /** What it pays in so many hours, ahead of which it is breathed on as the bits tell. */
        int goBreathed(int hours, int breathed) {
            int paid = 0;
            for (int i = 0; i < hours; i++) {
                if ((breathed >> i & 1) != 0) {
                    paid += breath();
                }
                goHour();
            }
            return paid;
        }

        /** What it pays by a PLAN's rows. */
        int goPlan(Rows plan) {
            int paid = 0;
            for (int i = 0; i < plan.size(); i++) {
                int what = plan.at(i, 0);
                if (what == 0) {
                    goHour();
                } else if (plan.at(i, 1) == one.number) {
                    if (what == 1) {
                        paid += breath();
                    } else {
                        isShut = what == 2;
                    }
                }
            }
            return paid;
        }

        private int breath() {
            int paid = offer();
            ice = 0;
            return paid;
        }

        private void fillBites() {
            Arrays.fill(bites, cold - warm);
            for (int i = 0; i < town.clauses; i++) {
                int cells = cellsWhere(i);
                for (int cell = 0; cell < CELLS; cell++) {
                    if ((cells >> cell & 1) != 0) {
                        bites[cell] += town.worths[i];
                    }
                }
            }
        }

        /** At which cells a clause holds (bits): its signs are worked off for all cells at once. */
        private int cellsWhere(int clause) {
            int top = 0;
            for (int i = clause == 0 ? 0 : town.ends[clause - 1]; i < town.ends[clause]; i++) {
                int sign = town.signs[i];
                if (sign == '!' && top > 0) {
                    stack[top - 1] ^= ALL_CELLS;
                } else if (sign == '&' && top > 1) {
                    top--;
                    stack[top - 1] &= stack[top];
                } else if (sign == '|' && top > 1) {
                    top--;
                    stack[top - 1] |= stack[top];
                } else if (top < STACK) {
                    stack[top] = cellsOfTest(sign, town.values[i]);
                    top++;
                }
            }
            return stack[0];
        }

        /** At which cells (bits) a test of that letter holds that holds for those values (bits). */
        private int cellsOfTest(int letter, int values) {
            int value;
            switch (letter) {
                case 'c': return values & ALL_CELLS;
                case 'n': return cellsBeside(values);
                case 'p': value = one.number; break;
                case 'k': value = one.kind; break;
                case 'w': value = warm; break;
                default: value = hour % 10; break;
            }
            return (values >> value & 1) != 0 ? ALL_CELLS : 0;
        }

        /** The cells beside which as many are frozen as one of the values (bits). */
        private int cellsBeside(int values) {
            int ahead = ice << 1 & ALL_CELLS;
            int behind = ice >> 1;
            int found = (values & 1) != 0 ? ALL_CELLS & ~(ahead | behind) : 0;
            found |= (values & 2) != 0 ? ahead ^ behind : 0;
            found |= (values & 4) != 0 ? ahead & behind : 0;
            return found;
        }
    }

    // ---- towns and their reading

    /** What a tape told: its CLAUSES' signs in the order in which they are worked off. */
    private static final class Town {
        int fern;
        int tower;
        int clauses;
        final int[] worths = new int[MOST_CLAUSES];
        final int[] ends = new int[MOST_CLAUSES];
        int signCount;
        final int[] signs = new int[MOST_SIGNS];
        final int[] values = new int[MOST_SIGNS];

        Town() {
            clear();
        }

        void clear() {
            fern = 3;
            tower = 2;
            clauses = 0;
            signCount = 0;
        }

        /** One of ! & | (no values), or a test's letter and the values for which it holds (bits). */
        void addSign(int sign, int holdsFor) {
            if (signCount < MOST_SIGNS) {
                signs[signCount] = sign;
                values[signCount] = holdsFor;
                signCount++;
            }
        }

        /** The signs since the last clause are one that chills by n (below 0: glows). */
        void addClause(int n) {
            if (clauses < MOST_CLAUSES) {
                worths[clauses] = n;
                ends[clauses] = signCount;
                clauses++;
            }
        }

        /** OFFER of an ICE. */
        int offerOf(int ice) {
            int runs = 0;
            int length = 0;
            int longest = 0;
            for (int cell = 0; cell < CELLS; cell++) {
                length = (ice >> cell & 1) != 0 ? length + 1 : 0;
                runs += length == 1 ? 1 : 0;
                longest = Math.max(longest, length);
            }
            return fern * runs + tower * longest;
        }
    }

    /** Reads THE TAPE; where it stops, no TOWN can go on. */
    private static final class Reader {
        /** THE TAPE's signs and NO_SIGN behind them, past which no reading goes: a place is always one of these. */
        private final int[] signs = new int[MOST_SIGNS + 1];
        private Town town = new Town();
        private int place = 0;
        private int number = 0;

        /** The FAULT; NO_FAULT, if the tape is a TOWN, which the given one is then. */
        int readInto(Town next, Rows tape) {
            int size = Math.min(tape.size(), MOST_SIGNS);
            for (int i = 0; i < size; i++) {
                signs[i] = tape.at(i, 0);
            }
            signs[size] = NO_SIGN;
            town = next;
            town.clear();
            place = 0;
            for (int i = 0; i < MOST_CLAUSES; i++) {
                boolean isRead = (i == 0 || take(';')) && clause();
                if (isRead && signs[place] == NO_SIGN) {
                    return NO_FAULT;
                }
                if (!isRead) {
                    return place;
                }
            }
            return place;
        }

        private boolean clause() {
            int first = signs[place];
            if (!word(wordFrom(first)) || !number()) {
                return false;
            }
            int n = number;
            if (first == 'f') {
                town.fern = n;
                return true;
            }
            if (first == 't') {
                town.tower = n;
                return true;
            }
            boolean isRead = take(' ') && either(0);
            town.addClause(first == 'c' ? n : -n);
            return isRead;
        }

        /** The word, with its blank, that begins with a sign; one that doesn't, if none does. */
        private static String wordFrom(int first) {
            switch (first) {
                case 'f': return "fern ";
                case 't': return "tower ";
                case 'c': return "chill ";
                default: return "glow ";
            }
        }

        /** E; open: how many of ! and ( are open, which ends either, both and part calling one another. */
        private boolean either(int open) {
            boolean isRead = both(open);
            for (int i = 0; i < MOST_SIGNS && isRead && take('|'); i++) {
                isRead = both(open);
                town.addSign('|', 0);
            }
            return isRead;
        }

        /** T. */
        private boolean both(int open) {
            boolean isRead = part(open);
            for (int i = 0; i < MOST_SIGNS && isRead && take('&'); i++) {
                isRead = part(open);
                town.addSign('&', 0);
            }
            return isRead;
        }

        /** F. */
        private boolean part(int open) {
            boolean isNot = signs[place] == '!';
            if (!isNot && signs[place] != '(') {
                return test();
            }
            if (open >= MOST_OPEN) {
                return false;
            }
            place++;
            if (!isNot) {
                return either(open + 1) && take(')');
            }
            boolean isRead = part(open + 1);
            town.addSign('!', 0);
            return isRead;
        }

        private boolean test() {
            int letter = signs[place];
            if (letter != 'p' && letter != 'k' && letter != 'c' && letter != 'n' && letter != 'w' && letter != 'h') {
                return false;
            }
            place++;
            int relation = signs[place];
            if (relation != '<' && relation != '=' && relation != '>') {
                return false;
            }
            place++;
            boolean isRead = number();
            town.addSign(letter, valuesSo(relation, number));
            return isRead;
        }

        /** Which values are so, as bits; none that a test looks at is above CELLS - 1. */
        private static int valuesSo(int relation, int than) {
            int found = 0;
            for (int value = 0; value < CELLS; value++) {
                boolean isSo = relation == '<' ? value < than : relation == '=' ? value == than : value > than;
                found |= isSo ? 1 << value : 0;
            }
            return found;
        }

        private boolean word(String word) {
            for (int i = 0; i < word.length(); i++) {
                if (!take(word.charAt(i))) {
                    return false;
                }
            }
            return true;
        }

        private boolean number() {
            int first = signs[place] - '0';
            if (first < 0 || first > LAST_DIGIT) {
                return false;
            }
            number = first;
            place++;
            int second = signs[place] - '0';
            if (first > 0 && second >= 0 && second <= LAST_DIGIT) {
                number = first * 10 + second;
                place++;
            }
            return true;
        }

        private boolean take(char wanted) {
            if (signs[place] != wanted) {
                return false;
            }
            place++;
            return true;
        }
    }

    // ---- lists

    /** Rows of up to three numbers, as many as told at most, that can keep how they are. */
    private static final class Rows {
        private static final int WIDTH = 3;
        private final int most;
        private final int[] numbers;
        private final int[] kept;
        /** How many came since the last clear(); those above the most are counted alone. */
        private int came = 0;
        private int keptCame = 0;

        Rows(int most) {
            this.most = Math.max(0, most);
            this.numbers = new int[this.most * WIDTH];
            this.kept = new int[this.most * WIDTH];
        }

        int size() {
            return Math.min(came, most);
        }

        boolean isFull() {
            return came >= most;
        }

        int at(int i, int column) {
            return isWithin(i, size() - 1) && isWithin(column, WIDTH - 1) ? numbers[i * WIDTH + column] : NONE;
        }

        /** How many came then. */
        int add(int a, int b, int c) {
            if (came >= 0 && came < most) {
                numbers[came * WIDTH] = a;
                numbers[came * WIDTH + 1] = b;
                numbers[came * WIDTH + 2] = c;
            }
            came++;
            return came;
        }

        int clear() {
            came = 0;
            return 0;
        }

        void keep() {
            System.arraycopy(numbers, 0, kept, 0, numbers.length);
            keptCame = came;
        }

        void takeBack() {
            System.arraycopy(kept, 0, numbers, 0, kept.length);
            came = keptCame;
        }
    }
}
