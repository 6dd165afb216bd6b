/** Promises 4, 5, 23, 24 and 30: bridges and the temperature. */
public final class WeatherTest {
    private WeatherTest() {
    }

    public static void main(String[] args) {
        addingBridges();
        exactThicknesses();
        settingTemperatures();
        minusZero();
        warmth();
        frost();
        smallestNumbers();
        roundedByItself();
        foretelling();
        Checks.end();
    }

    private static void addingBridges() {
        GlacierGuides x = new GlacierGuides();
        double[] wrong = {
            Double.NaN, Double.POSITIVE_INFINITY, Double.NEGATIVE_INFINITY, -0.0, -1.0, -Double.MIN_VALUE,
            Math.nextUp(500.0), 501.0, Double.MAX_VALUE, -Double.MAX_VALUE,
        };
        for (double number : wrong) {
            Checks.due("addBridge of " + number, x.addBridge(Checks.bits(number)), GlacierGuides.BAD_VALUE);
        }
        long[] wrongBits = {0x7FF0000000000001L, 0xFFF8000000000000L, 0x7FFFFFFFFFFFFFFFL, -1L, Long.MIN_VALUE};
        for (long bits : wrongBits) {
            Checks.due("addBridge(" + bits + ")", x.addBridge(bits), GlacierGuides.BAD_VALUE);
        }
        Checks.due("no bridge was added", x.count(2), 0);
        Checks.due("no act was recorded", x.count(11), 0);
        Checks.dueNumber("thickness without bridges", x.thickness(0), Double.NaN);
        Checks.due("addBridge of 0.0", x.addBridge(0L), 0);
        Checks.due("addBridge of 500.0", x.addBridge(Checks.bits(500.0)), 1);
        for (int i = 2; i < 6; i++) {
            Checks.due("addBridge of i", x.addBridge(Checks.bits(i)), i);
        }
        Checks.due("BAD_VALUE is before FULL", x.addBridge(-1L), GlacierGuides.BAD_VALUE);
        String before = Checks.told(x);
        Checks.due("a seventh bridge", x.addBridge(0L), GlacierGuides.FULL);
        Checks.unchanged(x, before, 5, 0, "a seventh bridge");
        Checks.dueNumber("thickness(0)", x.thickness(0), 0.0);
        Checks.dueNumber("thickness(1)", x.thickness(1), 500.0);
        Checks.dueNumber("thickness(5)", x.thickness(5), 5.0);
        Checks.dueNumber("thickness(-1)", x.thickness(-1), Double.NaN);
        Checks.dueNumber("thickness(6)", x.thickness(6), Double.NaN);
        Checks.dueNumber("thickness(MAX)", x.thickness(Integer.MAX_VALUE), Double.NaN);
        x.undo();
        Checks.dueNumber("thickness(5) undone", x.thickness(5), Double.NaN);
        Checks.due("room again", x.addBridge(Checks.bits(7.5)), 5);
        Checks.dueNumber("thickness(5) again", x.thickness(5), 7.5);
    }

    private static void exactThicknesses() {
        double[] numbers = {
            Double.MIN_VALUE, 3 * Double.MIN_VALUE, Math.nextDown(Double.MIN_NORMAL), Double.MIN_NORMAL,
            Math.nextUp(Double.MIN_NORMAL), 1e-300, 1e-17, 0.1, 1.0 / 3, Math.nextDown(1.0), 1.0, Math.nextUp(1.0),
            Math.PI, 15.0, 17.5, Math.nextDown(256.0), 256.0, 499.9999, Math.nextDown(500.0), 500.0,
        };
        for (double number : numbers) {
            GlacierGuides x = new GlacierGuides();
            Checks.due("addBridge of " + number, x.addBridge(Checks.bits(number)), 0);
            Checks.dueNumber("thickness of " + number, x.thickness(0), number);
        }
    }

    private static void settingTemperatures() {
        GlacierGuides x = new GlacierGuides();
        double[] wrong = {
            Double.NaN, Double.POSITIVE_INFINITY, Double.NEGATIVE_INFINITY, Math.nextUp(30.0),
            Math.nextDown(-40.0), 31.0, -41.0, Double.MAX_VALUE, -Double.MAX_VALUE,
        };
        for (double number : wrong) {
            Checks.due("setTemperature of " + number,
                x.setTemperature(Checks.bits(number)), GlacierGuides.BAD_VALUE);
        }
        Checks.due("setTemperature of a NaN", x.setTemperature(-1L), GlacierGuides.BAD_VALUE);
        Checks.due("setTemperature of a NaN", x.setTemperature(0x7FF0000000000001L), GlacierGuides.BAD_VALUE);
        Checks.due("no act was recorded", x.count(11), 0);
        Checks.due("temperature()", x.temperature(), 0L);
        double[] right = {30.0, -40.0, 0.1, -0.1, Double.MIN_VALUE, -Double.MIN_VALUE, 29.99, -39.99, -5.0, 5.0};
        for (double number : right) {
            Checks.due("setTemperature of " + number, x.setTemperature(Checks.bits(number)), 1);
            Checks.due("temperature() of " + number, x.temperature(), Checks.bits(number));
            String before = Checks.told(x);
            int states = x.count(11);
            Checks.due("the same again", x.setTemperature(Checks.bits(number)), GlacierGuides.NONE);
            Checks.unchanged(x, before, states, 0, "the same temperature again");
        }
        x.undo();
        Checks.due("temperature() undone", x.temperature(), Checks.bits(-5.0));
        Checks.due("setTemperature after undo", x.setTemperature(Checks.bits(-5.0)), GlacierGuides.NONE);
    }

    private static void minusZero() {
        GlacierGuides x = new GlacierGuides();
        Checks.due("-0.0 where 0.0 is set", x.setTemperature(Checks.bits(-0.0)), GlacierGuides.NONE);
        Checks.due("0.0 stays", x.temperature(), 0L);
        x.setTemperature(Checks.bits(1.0));
        Checks.due("-0.0 where 1.0 is set", x.setTemperature(Checks.bits(-0.0)), 1);
        Checks.due("-0.0 is set with its own bits", x.temperature(), Long.MIN_VALUE);
        Checks.due("0.0 where -0.0 is set", x.setTemperature(0L), GlacierGuides.NONE);
        Checks.due("-0.0 stays", x.temperature(), Long.MIN_VALUE);
        x.addBridge(Checks.bits(20.0));
        x.pass(3);
        Checks.dueNumber("a bridge at -0.0", x.thickness(0), 20.0);
        x.keep();
        x.setTemperature(Checks.bits(2.0));
        x.undo();
        Checks.due("-0.0 by undo()", x.temperature(), Long.MIN_VALUE);
        x.setTemperature(Checks.bits(2.0));
        x.restore();
        Checks.due("-0.0 by restore()", x.temperature(), Long.MIN_VALUE);
    }

    private static void warmth() {
        GlacierGuides x = new GlacierGuides();
        x.addBridge(Checks.bits(20.0));
        x.addBridge(Checks.bits(3.0));
        x.addBridge(Checks.bits(500.0));
        x.setTemperature(Checks.bits(2.0));
        x.pass(1);
        Checks.dueNumber("20.0 less 3.0", x.thickness(0), 17.0);
        Checks.dueNumber("3.0 less 3.0", x.thickness(1), 0.0);
        x.pass(2);
        Checks.dueNumber("17.0 less 6.0", x.thickness(0), 11.0);
        Checks.dueNumber("not below 0.0", x.thickness(1), 0.0);
        Checks.dueNumber("500.0 less 9.0", x.thickness(2), 491.0);
        x.setTemperature(Checks.bits(30.0));
        x.pass(1);
        Checks.dueNumber("11.0 less 45.0", x.thickness(0), 0.0);
    }

    private static void frost() {
        GlacierGuides x = new GlacierGuides();
        x.addBridge(Checks.bits(0.0));
        x.addBridge(Checks.bits(495.0));
        x.addBridge(Checks.bits(490.0));
        x.setTemperature(Checks.bits(-40.0));
        x.pass(1);
        Checks.dueNumber("0.0 and 10.0", x.thickness(0), 10.0);
        Checks.dueNumber("not above 500.0", x.thickness(1), 500.0);
        Checks.dueNumber("490.0 and 10.0", x.thickness(2), 500.0);
        x.setTemperature(Checks.bits(-1.0));
        x.pass(2);
        Checks.dueNumber("10.0 and 0.5", x.thickness(0), 10.5);
        Checks.dueNumber("still 500.0", x.thickness(1), 500.0);
        x.setTemperature(Checks.bits(-0.125));
        x.addBridge(Checks.bits(499.875));
        x.pass(1);
        Checks.dueNumber("10.5 and 0.03125", x.thickness(0), 10.53125);
        Checks.dueNumber("499.875 and 0.03125", x.thickness(3), 499.90625);
    }

    private static void smallestNumbers() {
        GlacierGuides x = new GlacierGuides();
        x.addBridge(0L);
        x.addBridge(Checks.bits(Double.MIN_VALUE));
        x.addBridge(Checks.bits(5 * Double.MIN_VALUE));
        x.setTemperature(Checks.bits(-Double.MIN_VALUE));
        x.pass(1);
        Checks.dueNumber("0.0 with hardly any frost", x.thickness(0), 0.0 - 0.25 * -Double.MIN_VALUE);
        x.setTemperature(Checks.bits(Double.MIN_VALUE));
        x.pass(1);
        Checks.dueNumber("the smallest with hardly any warmth", x.thickness(1), 0.0);
        Checks.dueNumber("five of it", x.thickness(2), 5 * Double.MIN_VALUE - 1.5 * Double.MIN_VALUE);
        Checks.dueNumber("foretold", x.foretold(2, 1), x.thickness(2) - 1.5 * Double.MIN_VALUE);
    }

    private static void roundedByItself() {
        GlacierGuides x = new GlacierGuides();
        x.addBridge(Checks.bits(100.0 / 3));
        x.setTemperature(Checks.bits(0.7));
        double thickness = 100.0 / 3;
        for (int day = 0; day < 20; day++) {
            Checks.dueNumber("foretold for " + day, x.foretold(0, day), thickness);
            double melted = 1.5 * 0.7;
            thickness = thickness - melted;
        }
        x.pass(20);
        Checks.dueNumber("thickness after 20 days", x.thickness(0), thickness);
        x.setTemperature(Checks.bits(-0.7));
        for (int day = 0; day < 20; day++) {
            Checks.dueNumber("foretold with frost for " + day, x.foretold(0, day), thickness);
            double frozen = 0.25 * -0.7;
            thickness = thickness - frozen;
        }
    }

    private static void foretelling() {
        GlacierGuides x = new GlacierGuides();
        Checks.dueNumber("foretold without bridges", x.foretold(0, 1), Double.NaN);
        x.addBridge(Checks.bits(100.0));
        x.addBridge(Checks.bits(499.0));
        Checks.dueNumber("foretold(-1, 1)", x.foretold(-1, 1), Double.NaN);
        Checks.dueNumber("foretold(2, 1)", x.foretold(2, 1), Double.NaN);
        Checks.dueNumber("foretold(0, -1)", x.foretold(0, -1), Double.NaN);
        Checks.dueNumber("foretold(0, 31)", x.foretold(0, 31), Double.NaN);
        Checks.dueNumber("foretold(0, MAX)", x.foretold(0, Integer.MAX_VALUE), Double.NaN);
        Checks.dueNumber("foretold(0, 0)", x.foretold(0, 0), 100.0);
        Checks.dueNumber("foretold at 0.0", x.foretold(0, 30), 100.0);
        x.setTemperature(Checks.bits(2.0));
        Checks.dueNumber("foretold(0, 0) when warm", x.foretold(0, 0), 100.0);
        Checks.dueNumber("foretold(0, 1) when warm", x.foretold(0, 1), 97.0);
        Checks.dueNumber("foretold(0, 30) when warm", x.foretold(0, 30), 10.0);
        x.setTemperature(Checks.bits(20.0));
        Checks.dueNumber("foretold(0, 30) when hot", x.foretold(0, 30), 0.0);
        x.setTemperature(Checks.bits(-2.0));
        Checks.dueNumber("foretold(0, 30) when cold", x.foretold(0, 30), 115.0);
        Checks.dueNumber("foretold(1, 30) when cold", x.foretold(1, 30), 500.0);
        Checks.dueNumber("foretold(1, 2) when cold", x.foretold(1, 2), 500.0);
        Checks.dueNumber("foretold(1, 1) when cold", x.foretold(1, 1), 499.5);
        String before = Checks.told(x);
        int states = x.count(11);
        x.foretold(0, 30);
        Checks.unchanged(x, before, states, 0, "foretold(0, 30)");
        for (int i = 0; i < 33; i++) {
            x.pass(30);
        }
        x.pass(10);
        Checks.due("the last day", x.count(0), 1000);
        x.setTemperature(Checks.bits(1.0));
        Checks.dueNumber("foretold behind the last day", x.foretold(0, 4), 494.0);
    }
}
