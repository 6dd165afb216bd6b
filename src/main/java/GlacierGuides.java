/** An office of glacier guides: certificates, tours, ropes, snow bridges, refunds, texts, undo and a snapshot. */
public final class GlacierGuides {
    public static final int UNKNOWN = -1;
    public static final int BAD_VALUE = -2;
    public static final int FULL = -3;
    public static final int NOT_POSSIBLE = -4;
    public static final int NONE = -5;

    private static final int MOST_GUIDES = 8;
    private static final int MOST_BRIDGES = 6;
    private static final int MOST_TOURS = 10;
    private static final int MOST_GUESTS = 12;
    private static final int MOST_IN_ROW = 4;
    private static final int MOST_STATES = 5;
    private static final int MOST_CHARACTERS = 40;
    private static final int MOST_DAYS_AT_ONCE = 30;
    private static final int HIGHEST_CLASS = 3;
    private static final int HIGHEST_PRICE = 9999;
    private static final int LAST_DAY = 999;
    private static final int END_OF_DAYS = 1000;
    private static final int FIRST_FAULT = -100;

    private static final int OPEN = 0;
    private static final int GONE = 1;
    private static final int CANCELLED = 2;
    private static final int MERGED = 3;

    private static final int NO_CAUSE = 0;
    private static final int NO_GUESTS = 1;
    private static final int WEAK_BRIDGE = 2;
    private static final int BADLY_GUIDED = 3;
    private static final int BY_HAND = 4;

    private static final int NO_COMMAND = 0;
    private static final int BOOK = 1;
    private static final int LEAVE = 2;
    private static final int MERGE = 3;
    private static final int CANCEL = 4;
    private static final int LEAD = 5;
    private static final int NO_FAULT = -1;

    private static final long BITS_OF_500 = 0x407F400000000000L;
    private static final long BITS_OF_60 = 0x404E000000000000L;
    private static final long BITS_OF_40 = 0x4044000000000000L;
    private static final long BITS_OF_30 = 0x403E000000000000L;
    private static final long ALL_BUT_SIGN = 0x7FFFFFFFFFFFFFFFL;

    private final State now;
    private final State snapshot;
    private final History history;
    private final Text text;
    private boolean hasSnapshot;

    public GlacierGuides() {
        now = new State();
        snapshot = new State();
        history = new History();
        text = new Text();
    }

    // ---- guides, bridges, weather

    public int addGuide(int kind, int until) {
        if (!isClass(kind) || !isLastDay(until)) {
            return BAD_VALUE;
        }
        if (now.guideCount >= MOST_GUIDES) {
            return FULL;
        }
        history.record(now);
        int number = now.guideCount;
        now.guides[number].begin(kind, until);
        now.guideCount++;
        return number;
    }

    public int renew(int guide, int kind, int until) {
        Guide renewed = now.guideAt(guide);
        if (renewed == null) {
            return UNKNOWN;
        }
        if (!isClass(kind) || !isLastDay(until)) {
            return BAD_VALUE;
        }
        if (renewed.kind == kind && renewed.until == until) {
            return NONE;
        }
        history.record(now);
        int former = renewed.until;
        renewed.certify(kind, until);
        return former;
    }

    public int addBridge(long bits) {
        if (!isFromZeroTo(BITS_OF_500, bits)) {
            return BAD_VALUE;
        }
        if (now.bridgeCount >= MOST_BRIDGES) {
            return FULL;
        }
        history.record(now);
        int number = now.bridgeCount;
        now.thicknesses[number] = numberOf(bits);
        now.bridgeCount++;
        return number;
    }

    public int setTemperature(long bits) {
        if (!isTemperature(bits)) {
            return BAD_VALUE;
        }
        double degrees = numberOf(bits);
        if (degrees == now.degrees) {
            return NONE;
        }
        history.record(now);
        now.degrees = degrees;
        now.degreeBits = bits;
        return 1;
    }

    // ---- tours

    public int addTour(int day, long slope, int price, int bridges) {
        if (day < now.day || day > LAST_DAY || !isFromZeroTo(BITS_OF_60, slope)) {
            return BAD_VALUE;
        }
        if (price < 1 || price > HIGHEST_PRICE || !now.hasBridges(bridges)) {
            return BAD_VALUE;
        }
        if (now.tourCount >= MOST_TOURS) {
            return FULL;
        }
        history.record(now);
        int number = now.tourCount;
        now.tours[number].begin(day, numberOf(slope), price, bridges);
        now.tourCount++;
        return number;
    }

    public int book(int tour, int guests) {
        Tour booked = now.tourAt(tour);
        if (booked == null) {
            return UNKNOWN;
        }
        if (!isGuests(guests)) {
            return BAD_VALUE;
        }
        if (booked.state != OPEN) {
            return NOT_POSSIBLE;
        }
        if (booked.guests + guests > MOST_GUESTS) {
            return FULL;
        }
        history.record(now);
        int payment = booked.price * guests;
        booked.guests += guests;
        booked.paid += payment;
        return payment;
    }

    public int leave(int tour, int guests) {
        Tour left = now.tourAt(tour);
        if (left == null) {
            return UNKNOWN;
        }
        if (!isGuests(guests)) {
            return BAD_VALUE;
        }
        if (left.state != OPEN || left.guests < guests) {
            return NOT_POSSIBLE;
        }
        history.record(now);
        int refund = left.refundFor(guests, now.day);
        left.guests -= guests;
        now.payBack(left, refund);
        return refund;
    }

    public int lead(int guide, int tour) {
        Tour led = now.tourAt(tour);
        if (now.guideAt(guide) == null || led == null) {
            return UNKNOWN;
        }
        if (!now.mayLead(guide, led)) {
            return NOT_POSSIBLE;
        }
        if (led.guides >= MOST_IN_ROW) {
            return FULL;
        }
        history.record(now);
        led.addToRow(guide);
        return now.ratioOf(guide, led);
    }

    public int release(int guide, int tour) {
        Tour led = now.tourAt(tour);
        if (now.guideAt(guide) == null || led == null) {
            return UNKNOWN;
        }
        if (led.state != OPEN) {
            return NOT_POSSIBLE;
        }
        if (!led.hasInRow(guide)) {
            return NONE;
        }
        history.record(now);
        led.takeFromRow(guide);
        return now.leftAfter(led, led.guides);
    }

    public int merge(int tour, int into) {
        Tour source = now.tourAt(tour);
        Tour target = now.tourAt(into);
        if (source == null || target == null) {
            return UNKNOWN;
        }
        if (tour == into) {
            return BAD_VALUE;
        }
        if (!source.fitsInto(target)) {
            return NOT_POSSIBLE;
        }
        history.record(now);
        int due = target.price * source.guests;
        int refund = source.paid > due ? source.paid - due : 0;
        now.payBack(source, refund);
        source.moveInto(target);
        return refund;
    }

    public int cancel(int tour) {
        Tour cancelled = now.tourAt(tour);
        if (cancelled == null) {
            return UNKNOWN;
        }
        if (cancelled.state != OPEN) {
            return NOT_POSSIBLE;
        }
        history.record(now);
        return now.callOff(cancelled, BY_HAND);
    }

    public int pass(int days) {
        if (days < 1 || days > MOST_DAYS_AT_ONCE) {
            return BAD_VALUE;
        }
        if (now.day + days > END_OF_DAYS) {
            return NOT_POSSIBLE;
        }
        history.record(now);
        int went = 0;
        for (int i = 0; i < days; i++) {
            went += now.passDay();
        }
        return went;
    }

    // ---- texts

    public int type(char character) {
        if (text.length >= MOST_CHARACTERS) {
            return FULL;
        }
        text.append(character);
        return text.length;
    }

    public int clearText() {
        int length = text.length;
        text.length = 0;
        return length;
    }

    public int perform() {
        int fault = text.read();
        if (fault != NO_FAULT) {
            return FIRST_FAULT - fault;
        }
        switch (text.command) {
            case BOOK:
                return book(text.first, text.second);
            case LEAVE:
                return leave(text.first, text.second);
            case MERGE:
                return merge(text.first, text.second);
            case LEAD:
                return lead(text.first, text.second);
            default:
                return cancel(text.first);
        }
    }

    // ---- history

    public int undo() {
        if (history.size == 0) {
            return NONE;
        }
        history.takeBack(now);
        return history.size;
    }

    public int keep() {
        snapshot.copyFrom(now);
        hasSnapshot = true;
        return now.day;
    }

    public int restore() {
        if (!hasSnapshot) {
            return NONE;
        }
        history.record(now);
        now.copyFrom(snapshot);
        return now.day;
    }

    // ---- what is told

    public int guide(int guide, int what) {
        Guide asked = now.guideAt(guide);
        if (asked == null) {
            return UNKNOWN;
        }
        switch (what) {
            case 0:
                return asked.kind;
            case 1:
                return asked.until;
            case 2:
                return asked.isValidOn(now.day) ? 1 : 0;
            case 3:
                return now.firstOpenTourOf(guide);
            case 4:
                return asked.toursLed;
            case 5:
                return asked.guestsLed;
            default:
                return BAD_VALUE;
        }
    }

    public int tour(int tour, int what) {
        Tour asked = now.tourAt(tour);
        if (asked == null) {
            return UNKNOWN;
        }
        switch (what) {
            case 0:
                return asked.day;
            case 1:
                return asked.price;
            case 2:
                return asked.bridges;
            case 3:
                return asked.guests;
            case 4:
                return asked.guides;
            case 5:
                return asked.paid;
            case 6:
                return asked.state;
            case 7:
                return asked.state == CANCELLED ? asked.cause : NONE;
            case 8:
                return now.leftAfter(asked, asked.guides);
            case 9:
                return asked.base;
            case 10:
                return asked.state == OPEN ? now.causeAgainst(asked) : NONE;
            default:
                return BAD_VALUE;
        }
    }

    public int rope(int tour, int place, int what) {
        Tour asked = now.tourAt(tour);
        if (asked == null) {
            return UNKNOWN;
        }
        if (place < 0 || what < 0 || what > 2) {
            return BAD_VALUE;
        }
        if (place >= asked.guides) {
            return NONE;
        }
        if (what == 0) {
            return asked.row[place];
        }
        if (what == 1) {
            return now.ratioOf(asked.row[place], asked);
        }
        return now.guestsOnRope(asked, place);
    }

    public double thickness(int bridge) {
        return now.hasBridge(bridge) ? now.thicknesses[bridge] : noNumber();
    }

    public double foretold(int bridge, int days) {
        if (!now.hasBridge(bridge) || days < 0 || days > MOST_DAYS_AT_ONCE) {
            return noNumber();
        }
        double thickness = now.thicknesses[bridge];
        for (int i = 0; i < days; i++) {
            thickness = now.dayLater(thickness);
        }
        return thickness;
    }

    public double needed(int tour) {
        Tour asked = now.tourAt(tour);
        return asked == null ? noNumber() : now.neededBy(asked);
    }

    public int holds(int tour, int bridge) {
        Tour asked = now.tourAt(tour);
        if (asked == null || !now.hasBridge(bridge)) {
            return UNKNOWN;
        }
        return now.thicknesses[bridge] >= now.neededBy(asked) ? 1 : 0;
    }

    public int bestGuide(int tour) {
        Tour asked = now.tourAt(tour);
        if (asked == null) {
            return UNKNOWN;
        }
        if (asked.guides >= MOST_IN_ROW) {
            return NONE;
        }
        int best = NONE;
        int greatest = 0;
        for (int i = 0; i < now.guideCount; i++) {
            if (now.mayLead(i, asked) && now.ratioOf(i, asked) > greatest) {
                best = i;
                greatest = now.ratioOf(i, asked);
            }
        }
        return best;
    }

    public int takes(int kind, int guide) {
        Guide asked = now.guideAt(guide);
        if (asked == null) {
            return UNKNOWN;
        }
        if (!isClass(kind)) {
            return BAD_VALUE;
        }
        return asked.kind == kind ? 1 : 0;
    }

    public int count(int what) {
        switch (what) {
            case 0:
                return now.day;
            case 1:
                return now.guideCount;
            case 2:
                return now.bridgeCount;
            case 3:
                return now.tourCount;
            case 4:
                return now.toursThatAre(OPEN);
            case 5:
                return now.toursThatAre(GONE);
            case 6:
                return now.toursThatAre(CANCELLED);
            case 7:
                return now.toursThatAre(MERGED);
            case 8:
                return now.allPaid();
            case 9:
                return now.refunded;
            case 10:
                return now.guestsGone();
            case 11:
                return history.size;
            case 12:
                return text.length;
            default:
                return BAD_VALUE;
        }
    }

    public long temperature() {
        return now.degreeBits;
    }

    // ---- what arguments may be

    private static boolean isClass(int kind) {
        return kind >= 1 && kind <= HIGHEST_CLASS;
    }

    private static boolean isLastDay(int until) {
        return until >= 0 && until <= LAST_DAY;
    }

    private static boolean isGuests(int guests) {
        return guests >= 1 && guests <= MOST_GUESTS;
    }

    // From 0.0 on, numbers have the order of their bits; infinity and NaN lie above them,
    // and the bits of -0.0 and of all below it are negative.
    private static boolean isFromZeroTo(long greatest, long bits) {
        return bits >= 0 && bits <= greatest;
    }

    private static boolean isTemperature(long bits) {
        return bits < 0 ? isFromZeroTo(BITS_OF_40, bits & ALL_BUT_SIGN) : isFromZeroTo(BITS_OF_30, bits);
    }

    // ---- numbers

    // The library that is allowed does not turn bits into a double. Every product here is exact,
    // for it has no more bits than a double holds. The bits are those of a number up to 500.0.
    private static double numberOf(long bits) {
        int exponent = (int) (bits >>> 52) & 0x7FF;
        long fraction = bits & 0xFFFFFFFFFFFFFL;
        double size;
        if (exponent == 0) {
            size = fraction * halved(1074);
        } else {
            size = (fraction | 0x10000000000000L) * halved(1075 - exponent);
        }
        return bits < 0 ? -size : size;
    }

    private static double halved(int times) {
        double result = 1.0;
        double factor = 0.5;
        for (int bit = 0; bit < 11; bit++) {
            if ((times >> bit & 1) != 0) {
                result *= factor;
            }
            factor *= factor;
        }
        return result;
    }

    private static double noNumber() {
        return 0.0 / 0.0;
    }

    private static final class Guide {
        int kind;
        int until;
        // Counted when a tour goes, for a class that is renewed later changes the ropes that are told.
        int toursLed;
        int guestsLed;

        // A guide who was undone may have stood here, so nothing of him may stay.
        void begin(int itsKind, int itsUntil) {
            certify(itsKind, itsUntil);
            toursLed = 0;
            guestsLed = 0;
        }

        void copyFrom(Guide other) {
            certify(other.kind, other.until);
            toursLed = other.toursLed;
            guestsLed = other.guestsLed;
        }

        void haveLed(int guests) {
            toursLed++;
            guestsLed += guests;
        }

        void certify(int newKind, int newUntil) {
            kind = newKind;
            until = newUntil;
        }

        boolean isValidOn(int day) {
            return day <= until;
        }
    }

    private static final class Tour {
        final int[] row;
        int day;
        double slope;
        int base;
        int price;
        int bridges;
        int guests;
        int guides;
        int paid;
        int state;
        int cause;

        Tour() {
            row = new int[MOST_IN_ROW];
        }

        // A tour that was undone may have stood here, so nothing of it may stay.
        void begin(int itsDay, double itsSlope, int itsPrice, int itsBridges) {
            day = itsDay;
            slope = itsSlope;
            base = baseOf(itsSlope);
            price = itsPrice;
            bridges = itsBridges;
            guests = 0;
            guides = 0;
            paid = 0;
            state = OPEN;
            cause = NO_CAUSE;
        }

        void copyFrom(Tour other) {
            System.arraycopy(other.row, 0, row, 0, MOST_IN_ROW);
            day = other.day;
            slope = other.slope;
            base = other.base;
            price = other.price;
            bridges = other.bridges;
            guests = other.guests;
            guides = other.guides;
            paid = other.paid;
            state = other.state;
            cause = other.cause;
        }

        static int baseOf(double slope) {
            if (slope < 15.0) {
                return 7;
            }
            if (slope < 30.0) {
                return 5;
            }
            return slope < 45.0 ? 3 : 1;
        }

        boolean hasInRow(int guide) {
            for (int i = 0; i < guides; i++) {
                if (row[i] == guide) {
                    return true;
                }
            }
            return false;
        }

        void addToRow(int guide) {
            if (guides < MOST_IN_ROW) {
                row[guides] = guide;
                guides++;
            }
        }

        void takeFromRow(int guide) {
            int staying = 0;
            for (int i = 0; i < guides; i++) {
                if (row[i] != guide) {
                    row[staying] = row[i];
                    staying++;
                }
            }
            guides = staying;
        }

        // Only for at least one guest who leaves, and no more than there are.
        int refundFor(int leaving, int today) {
            if (guests <= 0) {
                return 0;
            }
            return (int) ((double) paid / guests * leaving * shareAt(day - today));
        }

        static double shareAt(int daysAhead) {
            if (daysAhead >= 14) {
                return 1.0;
            }
            if (daysAhead >= 7) {
                return 0.75;
            }
            return daysAhead >= 3 ? 0.5 : 0.0;
        }

        boolean fitsInto(Tour target) {
            return state == OPEN && target.state == OPEN && day == target.day
                && target.slope <= slope && (target.bridges & ~bridges) == 0
                && guests + target.guests <= MOST_GUESTS;
        }

        void moveInto(Tour target) {
            target.guests += guests;
            target.paid += paid;
            for (int i = 0; i < guides; i++) {
                target.addToRow(row[i]);
            }
            guests = 0;
            guides = 0;
            paid = 0;
            state = MERGED;
        }
    }

    /** All that undo() and restore() bring back. */
    private static final class State {
        final Guide[] guides;
        final double[] thicknesses;
        final Tour[] tours;
        int guideCount;
        int bridgeCount;
        int tourCount;
        int day;
        // -0.0 is told with its own bits, but is no other temperature than 0.0.
        long degreeBits;
        double degrees;
        int refunded;

        State() {
            guides = new Guide[MOST_GUIDES];
            for (int i = 0; i < MOST_GUIDES; i++) {
                guides[i] = new Guide();
            }
            thicknesses = new double[MOST_BRIDGES];
            tours = new Tour[MOST_TOURS];
            for (int i = 0; i < MOST_TOURS; i++) {
                tours[i] = new Tour();
            }
        }

        void copyFrom(State other) {
            for (int i = 0; i < other.guideCount; i++) {
                guides[i].copyFrom(other.guides[i]);
            }
            System.arraycopy(other.thicknesses, 0, thicknesses, 0, MOST_BRIDGES);
            for (int i = 0; i < other.tourCount; i++) {
                tours[i].copyFrom(other.tours[i]);
            }
            guideCount = other.guideCount;
            bridgeCount = other.bridgeCount;
            tourCount = other.tourCount;
            day = other.day;
            degreeBits = other.degreeBits;
            degrees = other.degrees;
            refunded = other.refunded;
        }

        Guide guideAt(int number) {
            return number >= 0 && number < guideCount ? guides[number] : null;
        }

        Tour tourAt(int number) {
            return number >= 0 && number < tourCount ? tours[number] : null;
        }

        boolean hasBridge(int number) {
            return number >= 0 && number < bridgeCount;
        }

        boolean hasBridges(int set) {
            return (set & ~((1 << bridgeCount) - 1)) == 0;
        }

        // ---- guides and ropes

        // Whether lead() finds nothing against it but a row that is full.
        boolean mayLead(int guide, Tour tour) {
            return tour.state == OPEN && guides[guide].isValidOn(tour.day) && !isBusyOn(tour.day, guide);
        }

        boolean isBusyOn(int someDay, int guide) {
            for (int i = 0; i < tourCount; i++) {
                if (tours[i].state == OPEN && tours[i].day == someDay && tours[i].hasInRow(guide)) {
                    return true;
                }
            }
            return false;
        }

        int ratioOf(int guide, Tour tour) {
            int ratio = tour.base + guides[guide].kind - 2;
            return ratio < 1 ? 1 : ratio;
        }

        // The guests who have no place on the first ropes of a tour.
        int leftAfter(Tour tour, int ropes) {
            int left = tour.guests;
            for (int i = 0; i < ropes; i++) {
                left -= ratioOf(tour.row[i], tour);
            }
            return left < 0 ? 0 : left;
        }

        int guestsOnRope(Tour tour, int place) {
            return leftAfter(tour, place) - leftAfter(tour, place + 1);
        }

        int firstOpenTourOf(int guide) {
            for (int i = 0; i < tourCount; i++) {
                if (tours[i].state == OPEN && tours[i].hasInRow(guide)) {
                    return i;
                }
            }
            return NONE;
        }

        // ---- bridges

        double neededBy(Tour tour) {
            int greatest = 0;
            int left = tour.guests;
            for (int i = 0; i < tour.guides; i++) {
                int behind = leftAfter(tour, i + 1);
                greatest = left - behind > greatest ? left - behind : greatest;
                left = behind;
            }
            return 15.0 + 2.5 * (greatest + 1);
        }

        boolean allBridgesHold(Tour tour) {
            double needed = neededBy(tour);
            for (int i = 0; i < bridgeCount; i++) {
                if ((tour.bridges >> i & 1) != 0 && !(thicknesses[i] >= needed)) {
                    return false;
                }
            }
            return true;
        }

        double dayLater(double thickness) {
            if (degrees > 0.0) {
                double thinner = thickness - 1.5 * degrees;
                return thinner < 0.0 ? 0.0 : thinner;
            }
            if (degrees < 0.0) {
                double thicker = thickness - 0.25 * degrees;
                return thicker > 500.0 ? 500.0 : thicker;
            }
            return thickness;
        }

        // ---- days

        int causeAgainst(Tour tour) {
            if (tour.guests == 0) {
                return NO_GUESTS;
            }
            if (!allBridgesHold(tour)) {
                return WEAK_BRIDGE;
            }
            if (leftAfter(tour, tour.guides) > 0 || !allGuidesAreValid(tour)) {
                return BADLY_GUIDED;
            }
            return NO_CAUSE;
        }

        boolean allGuidesAreValid(Tour tour) {
            for (int i = 0; i < tour.guides; i++) {
                if (!guides[tour.row[i]].isValidOn(tour.day)) {
                    return false;
                }
            }
            return true;
        }

        int passDay() {
            int went = 0;
            for (int i = 0; i < tourCount; i++) {
                Tour tour = tours[i];
                if (tour.state == OPEN && tour.day == day) {
                    int cause = causeAgainst(tour);
                    if (cause == NO_CAUSE) {
                        letGo(tour);
                        went++;
                    } else {
                        callOff(tour, cause);
                    }
                }
            }
            for (int i = 0; i < bridgeCount; i++) {
                thicknesses[i] = dayLater(thicknesses[i]);
            }
            day++;
            return went;
        }

        void letGo(Tour tour) {
            tour.state = GONE;
            for (int place = 0; place < tour.guides; place++) {
                guides[tour.row[place]].haveLed(guestsOnRope(tour, place));
            }
        }

        // ---- money and sums

        int callOff(Tour tour, int cause) {
            int refund = tour.paid;
            tour.state = CANCELLED;
            tour.cause = cause;
            payBack(tour, refund);
            return refund;
        }

        void payBack(Tour tour, int refund) {
            tour.paid -= refund;
            refunded += refund;
        }

        int toursThatAre(int state) {
            int found = 0;
            for (int i = 0; i < tourCount; i++) {
                if (tours[i].state == state) {
                    found++;
                }
            }
            return found;
        }

        int allPaid() {
            int paid = 0;
            for (int i = 0; i < tourCount; i++) {
                paid += tours[i].paid;
            }
            return paid;
        }

        int guestsGone() {
            int guests = 0;
            for (int i = 0; i < tourCount; i++) {
                if (tours[i].state == GONE) {
                    guests += tours[i].guests;
                }
            }
            return guests;
        }
    }

    /** The states before the latest acts, in a ring, so that none is made anew. */
    private static final class History {
        final State[] states;
        int oldest;
        int size;

        History() {
            states = new State[MOST_STATES];
            for (int i = 0; i < MOST_STATES; i++) {
                states[i] = new State();
            }
        }

        void record(State state) {
            if (size == MOST_STATES) {
                oldest = (oldest + 1) % MOST_STATES;
                size--;
            }
            states[(oldest + size) % MOST_STATES].copyFrom(state);
            size++;
        }

        // Only where there is a state.
        void takeBack(State state) {
            if (size > 0) {
                size--;
                state.copyFrom(states[(oldest + size) % MOST_STATES]);
            }
        }
    }

    /** The text that is typed, and the command that was read from it last. */
    private static final class Text {
        // No StringBuilder, for any character may be typed, and a text holds only those up to 255.
        final char[] characters;
        int length;
        int command;
        int first;
        int second;

        Text() {
            characters = new char[MOST_CHARACTERS];
        }

        void append(char character) {
            if (length < MOST_CHARACTERS) {
                characters[length] = character;
                length++;
            }
        }

        // The fault of the text, or NO_FAULT; then the command and its numbers stand in the fields.
        int read() {
            int at = wordLength();
            command = commandOf(at);
            if (command == NO_COMMAND) {
                return 0;
            }
            int numbers = command == CANCEL ? 1 : 2;
            for (int i = 0; i < numbers; i++) {
                if (!isBlankAt(at)) {
                    return at;
                }
                at++;
                if (!isDigitAt(at)) {
                    return at;
                }
                int digits = digitsAt(at);
                keepNumber(i, at, digits);
                at += digits;
            }
            return at < length ? at : NO_FAULT;
        }

        int wordLength() {
            int letters = 0;
            while (letters < length && characters[letters] >= 'a' && characters[letters] <= 'z') {
                letters++;
            }
            return letters;
        }

        int commandOf(int letters) {
            if (isWord("book", letters)) {
                return BOOK;
            }
            if (isWord("leave", letters)) {
                return LEAVE;
            }
            if (isWord("merge", letters)) {
                return MERGE;
            }
            if (isWord("cancel", letters)) {
                return CANCEL;
            }
            return isWord("lead", letters) ? LEAD : NO_COMMAND;
        }

        boolean isWord(String word, int letters) {
            if (letters != word.length() || letters > length) {
                return false;
            }
            for (int i = 0; i < letters; i++) {
                if (characters[i] != word.charAt(i)) {
                    return false;
                }
            }
            return true;
        }

        boolean isBlankAt(int at) {
            return at < length && characters[at] == ' ';
        }

        boolean isDigitAt(int at) {
            return at < length && characters[at] >= '0' && characters[at] <= '9';
        }

        // A zero stands alone, so whatever is behind it belongs to no number.
        int digitsAt(int at) {
            return characters[at] != '0' && isDigitAt(at + 1) ? 2 : 1;
        }

        void keepNumber(int which, int at, int digits) {
            int number = characters[at] - '0';
            if (digits == 2) {
                number = 10 * number + characters[at + 1] - '0';
            }
            if (which == 0) {
                first = number;
            } else {
                second = number;
            }
        }
    }
}
