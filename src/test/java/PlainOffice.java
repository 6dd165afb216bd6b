import java.util.ArrayDeque;
import java.util.ArrayList;
import java.util.List;
import java.util.regex.Matcher;
import java.util.regex.Pattern;

/**
 * The document once more, written with the Java library and without thrift, so that random runs of
 * calls can be compared with it.
 */
final class PlainOffice {
    private static final class PlainTour {
        int day;
        double slope;
        int price;
        int bridges;
        int guests;
        List<Integer> row = new ArrayList<>();
        int paid;
        int state;
        int cause;
        List<Integer> ropesThatWent = new ArrayList<>();

        PlainTour copy() {
            PlainTour copy = new PlainTour();
            copy.day = day;
            copy.slope = slope;
            copy.price = price;
            copy.bridges = bridges;
            copy.guests = guests;
            copy.row = new ArrayList<>(row);
            copy.paid = paid;
            copy.state = state;
            copy.cause = cause;
            copy.ropesThatWent = ropesThatWent;
            return copy;
        }

        boolean open() {
            return state == 0;
        }

        int base() {
            return slope < 15.0 ? 7 : slope < 30.0 ? 5 : slope < 45.0 ? 3 : 1;
        }
    }

    private static final class PlainState {
        int day = 0;
        double temperature = 0.0;
        int refunds = 0;
        List<int[]> guides = new ArrayList<>();
        List<Double> bridges = new ArrayList<>();
        List<PlainTour> tours = new ArrayList<>();

        PlainState copy() {
            PlainState copy = new PlainState();
            copy.day = day;
            copy.temperature = temperature;
            copy.refunds = refunds;
            for (int[] guide : guides) {
                copy.guides.add(guide.clone());
            }
            copy.bridges.addAll(bridges);
            for (PlainTour tour : tours) {
                copy.tours.add(tour.copy());
            }
            return copy;
        }
    }

    private static final Pattern WORD = Pattern.compile("^[a-z]*");
    private static final String NUMBER = " (0|[1-9][0-9]?)";

    private PlainState s = new PlainState();
    private PlainState snapshot = null;
    private final ArrayDeque<PlainState> history = new ArrayDeque<>();
    private String text = "";

    private void act() {
        history.addLast(s.copy());
        if (history.size() > 5) {
            history.removeFirst();
        }
    }

    private boolean noGuide(int guide) {
        return guide < 0 || guide >= s.guides.size();
    }

    private boolean noTour(int tour) {
        return tour < 0 || tour >= s.tours.size();
    }

    private boolean noBridge(int bridge) {
        return bridge < 0 || bridge >= s.bridges.size();
    }

    private static boolean minusZero(double number) {
        return number == 0.0 && 1.0 / number < 0.0;
    }

    int addGuide(int kind, int until) {
        if (kind < 1 || kind > 3 || until < 0 || until > 999) {
            return -2;
        }
        if (s.guides.size() == 8) {
            return -3;
        }
        act();
        s.guides.add(new int[] {kind, until});
        return s.guides.size() - 1;
    }

    int renew(int guide, int kind, int until) {
        if (noGuide(guide)) {
            return -1;
        }
        if (kind < 1 || kind > 3 || until < 0 || until > 999) {
            return -2;
        }
        int[] old = s.guides.get(guide);
        if (old[0] == kind && old[1] == until) {
            return -5;
        }
        act();
        s.guides.set(guide, new int[] {kind, until});
        return old[1];
    }

    int addBridge(long bits) {
        double thickness = Double.longBitsToDouble(bits);
        if (!(thickness >= 0.0 && thickness <= 500.0) || minusZero(thickness)) {
            return -2;
        }
        if (s.bridges.size() == 6) {
            return -3;
        }
        act();
        s.bridges.add(thickness);
        return s.bridges.size() - 1;
    }

    int setTemperature(long bits) {
        double temperature = Double.longBitsToDouble(bits);
        if (!(temperature >= -40.0 && temperature <= 30.0)) {
            return -2;
        }
        if (temperature == s.temperature) {
            return -5;
        }
        act();
        s.temperature = temperature;
        return 1;
    }

    int addTour(int day, long slopeBits, int price, int bridges) {
        double slope = Double.longBitsToDouble(slopeBits);
        if (day < s.day || day > 999 || !(slope >= 0.0 && slope <= 60.0) || minusZero(slope)
            || price < 1 || price > 9999 || bridges < 0 || bridges >= 1 << s.bridges.size()) {
            return -2;
        }
        if (s.tours.size() == 10) {
            return -3;
        }
        act();
        PlainTour tour = new PlainTour();
        tour.day = day;
        tour.slope = slope;
        tour.price = price;
        tour.bridges = bridges;
        s.tours.add(tour);
        return s.tours.size() - 1;
    }

    int book(int tour, int guests) {
        if (noTour(tour)) {
            return -1;
        }
        if (guests < 1 || guests > 12) {
            return -2;
        }
        if (!s.tours.get(tour).open()) {
            return -4;
        }
        if (s.tours.get(tour).guests + guests > 12) {
            return -3;
        }
        act();
        PlainTour t = s.tours.get(tour);
        t.guests += guests;
        t.paid += t.price * guests;
        return t.price * guests;
    }

    int leave(int tour, int guests) {
        if (noTour(tour)) {
            return -1;
        }
        if (guests < 1 || guests > 12) {
            return -2;
        }
        if (!s.tours.get(tour).open() || s.tours.get(tour).guests < guests) {
            return -4;
        }
        act();
        PlainTour t = s.tours.get(tour);
        int ahead = t.day - s.day;
        double share = ahead >= 14 ? 1.0 : ahead >= 7 ? 0.75 : ahead >= 3 ? 0.5 : 0.0;
        int refund = (int) ((double) t.paid / t.guests * guests * share);
        t.guests -= guests;
        t.paid -= refund;
        s.refunds += refund;
        return refund;
    }

    private int ratio(int guide, PlainTour t) {
        return Math.max(1, t.base() + s.guides.get(guide)[0] - 2);
    }

    private int leadError(int guide, PlainTour t) {
        if (!t.open() || s.guides.get(guide)[1] < t.day) {
            return -4;
        }
        for (PlainTour other : s.tours) {
            if (other.open() && other.day == t.day && other.row.contains(guide)) {
                return -4;
            }
        }
        return t.row.size() == 4 ? -3 : 0;
    }

    int lead(int guide, int tour) {
        if (noGuide(guide) || noTour(tour)) {
            return -1;
        }
        int error = leadError(guide, s.tours.get(tour));
        if (error != 0) {
            return error;
        }
        act();
        s.tours.get(tour).row.add(guide);
        return ratio(guide, s.tours.get(tour));
    }

    int release(int guide, int tour) {
        if (noGuide(guide) || noTour(tour)) {
            return -1;
        }
        if (!s.tours.get(tour).open()) {
            return -4;
        }
        if (!s.tours.get(tour).row.contains(guide)) {
            return -5;
        }
        act();
        s.tours.get(tour).row.remove(Integer.valueOf(guide));
        return leftOver(s.tours.get(tour));
    }

    int merge(int tour, int into) {
        if (noTour(tour) || noTour(into)) {
            return -1;
        }
        if (tour == into) {
            return -2;
        }
        PlainTour from = s.tours.get(tour);
        PlainTour to = s.tours.get(into);
        if (!from.open() || !to.open() || from.day != to.day || to.slope > from.slope
            || (from.bridges | to.bridges) != from.bridges || from.guests + to.guests > 12) {
            return -4;
        }
        act();
        int refund = Math.max(0, from.paid - to.price * from.guests);
        s.refunds += refund;
        to.paid += from.paid - refund;
        to.guests += from.guests;
        to.row.addAll(from.row);
        while (to.row.size() > 4) {
            to.row.remove(4);
        }
        from.paid = 0;
        from.guests = 0;
        from.row.clear();
        from.state = 3;
        return refund;
    }

    private int stop(PlainTour t, int cause) {
        int refund = t.paid;
        t.paid = 0;
        t.state = 2;
        t.cause = cause;
        s.refunds += refund;
        return refund;
    }

    int cancel(int tour) {
        if (noTour(tour)) {
            return -1;
        }
        if (!s.tours.get(tour).open()) {
            return -4;
        }
        act();
        return stop(s.tours.get(tour), 4);
    }

    int pass(int days) {
        if (days < 1 || days > 30) {
            return -2;
        }
        if (s.day + days > 1000) {
            return -4;
        }
        act();
        int went = 0;
        for (int i = 0; i < days; i++) {
            for (PlainTour t : s.tours) {
                if (t.open() && t.day == s.day) {
                    int cause = causeNow(t);
                    if (cause != 0) {
                        stop(t, cause);
                    } else {
                        t.state = 1;
                        t.ropesThatWent = ropes(t);
                        went++;
                    }
                }
            }
            for (int b = 0; b < s.bridges.size(); b++) {
                s.bridges.set(b, next(s.bridges.get(b)));
            }
            s.day++;
        }
        return went;
    }

    private double next(double thickness) {
        if (s.temperature > 0.0) {
            return Math.max(0.0, thickness - 1.5 * s.temperature);
        }
        if (s.temperature < 0.0) {
            return Math.min(500.0, thickness - 0.25 * s.temperature);
        }
        return thickness;
    }

    private int causeNow(PlainTour t) {
        if (t.guests == 0) {
            return 1;
        }
        for (int b = 0; b < s.bridges.size(); b++) {
            if ((t.bridges & 1 << b) != 0 && s.bridges.get(b) < needed(t)) {
                return 2;
            }
        }
        boolean lapsed = false;
        for (int guide : t.row) {
            lapsed |= s.guides.get(guide)[1] < t.day;
        }
        return lapsed || leftOver(t) > 0 ? 3 : 0;
    }

    private List<Integer> ropes(PlainTour t) {
        List<Integer> ropes = new ArrayList<>();
        int left = t.guests;
        for (int guide : t.row) {
            int taken = Math.min(left, ratio(guide, t));
            ropes.add(taken);
            left -= taken;
        }
        return ropes;
    }

    private int leftOver(PlainTour t) {
        return t.guests - ropes(t).stream().mapToInt(Integer::intValue).sum();
    }

    private double needed(PlainTour t) {
        int p = 1 + ropes(t).stream().mapToInt(Integer::intValue).max().orElse(0);
        return 15.0 + 2.5 * p;
    }

    int type(char character) {
        if (text.length() == 40) {
            return -3;
        }
        text += character;
        return text.length();
    }

    int clearText() {
        int length = text.length();
        text = "";
        return length;
    }

    int perform() {
        Matcher word = WORD.matcher(text);
        String first = word.find() ? word.group() : "";
        if (!List.of("book", "leave", "merge", "cancel", "lead").contains(first)) {
            return -100;
        }
        Pattern whole = Pattern.compile(first + NUMBER + (first.equals("cancel") ? "" : NUMBER));
        Matcher command = whole.matcher(text);
        if (!command.matches()) {
            return -100 - longestBeginning(whole);
        }
        int a = Integer.parseInt(command.group(1));
        int b = first.equals("cancel") ? 0 : Integer.parseInt(command.group(2));
        switch (first) {
            case "book":
                return book(a, b);
            case "leave":
                return leave(a, b);
            case "merge":
                return merge(a, b);
            case "lead":
                return lead(a, b);
            default:
                return cancel(a);
        }
    }

    /** How many characters of the text are the beginning of some command that is whole. */
    private int longestBeginning(Pattern whole) {
        int length = 0;
        while (length < text.length()) {
            Matcher beginning = whole.matcher(text.substring(0, length + 1));
            if (!beginning.matches() && !beginning.hitEnd()) {
                return length;
            }
            length++;
        }
        return length;
    }

    int undo() {
        if (history.isEmpty()) {
            return -5;
        }
        s = history.removeLast();
        return history.size();
    }

    int keep() {
        snapshot = s.copy();
        return s.day;
    }

    int restore() {
        if (snapshot == null) {
            return -5;
        }
        act();
        s = snapshot.copy();
        return s.day;
    }

    int guide(int guide, int what) {
        if (noGuide(guide)) {
            return -1;
        }
        int led = 0;
        int guests = 0;
        int lowest = -5;
        for (int i = s.tours.size() - 1; i >= 0; i--) {
            PlainTour t = s.tours.get(i);
            int place = t.row.indexOf(guide);
            if (place >= 0 && t.open()) {
                lowest = i;
            }
            if (place >= 0 && t.state == 1) {
                led++;
                guests += t.ropesThatWent.get(place);
            }
        }
        int[] certificate = s.guides.get(guide);
        int[] told = {certificate[0], certificate[1], s.day <= certificate[1] ? 1 : 0, lowest, led, guests};
        return what < 0 || what >= told.length ? -2 : told[what];
    }

    int tour(int tour, int what) {
        if (noTour(tour)) {
            return -1;
        }
        PlainTour t = s.tours.get(tour);
        int[] told = {
            t.day, t.price, t.bridges, t.guests, t.row.size(), t.paid, t.state, t.state == 2 ? t.cause : -5,
            leftOver(t), t.base(), t.open() ? causeNow(t) : -5,
        };
        return what < 0 || what >= told.length ? -2 : told[what];
    }

    int rope(int tour, int place, int what) {
        if (noTour(tour)) {
            return -1;
        }
        if (place < 0 || what < 0 || what > 2) {
            return -2;
        }
        PlainTour t = s.tours.get(tour);
        if (place >= t.row.size()) {
            return -5;
        }
        int guide = t.row.get(place);
        return what == 0 ? guide : what == 1 ? ratio(guide, t) : ropes(t).get(place);
    }

    double thickness(int bridge) {
        return noBridge(bridge) ? Double.NaN : s.bridges.get(bridge);
    }

    double foretold(int bridge, int days) {
        if (noBridge(bridge) || days < 0 || days > 30) {
            return Double.NaN;
        }
        double thickness = s.bridges.get(bridge);
        for (int i = 0; i < days; i++) {
            thickness = next(thickness);
        }
        return thickness;
    }

    double needed(int tour) {
        return noTour(tour) ? Double.NaN : needed(s.tours.get(tour));
    }

    int holds(int tour, int bridge) {
        if (noTour(tour) || noBridge(bridge)) {
            return -1;
        }
        return s.bridges.get(bridge) >= needed(s.tours.get(tour)) ? 1 : 0;
    }

    int bestGuide(int tour) {
        if (noTour(tour)) {
            return -1;
        }
        int best = -5;
        for (int guide = s.guides.size() - 1; guide >= 0; guide--) {
            PlainTour t = s.tours.get(tour);
            if (leadError(guide, t) == 0 && (best < 0 || ratio(guide, t) >= ratio(best, t))) {
                best = guide;
            }
        }
        return best;
    }

    int takes(int kind, int guide) {
        if (noGuide(guide)) {
            return -1;
        }
        if (kind < 1 || kind > 3) {
            return -2;
        }
        return s.guides.get(guide)[0] == kind ? 1 : 0;
    }

    int count(int what) {
        int[] states = new int[4];
        int paid = 0;
        int gone = 0;
        for (PlainTour t : s.tours) {
            states[t.state]++;
            paid += t.paid;
            gone += t.state == 1 ? t.guests : 0;
        }
        int[] told = {
            s.day, s.guides.size(), s.bridges.size(), s.tours.size(), states[0], states[1], states[2], states[3],
            paid, s.refunds, gone, history.size(), text.length(),
        };
        return what < 0 || what >= told.length ? -2 : told[what];
    }

    long temperature() {
        return Double.doubleToLongBits(s.temperature);
    }
}
