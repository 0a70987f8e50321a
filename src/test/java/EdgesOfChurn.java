/** The edges of promises 15 to 22. */
final class EdgesOfChurn {
    private static final Class<IllegalArgumentException> ARGUMENT = IllegalArgumentException.class;
    private static final Class<java.util.NoSuchElementException> NONE = java.util.NoSuchElementException.class;

    private EdgesOfChurn() {
    }

    static void test() {
        Edges.of("15", "- `mass`: the mass, 1 to 100", EdgesOfChurn::masses);
        Edges.of("15", "Returns the temperature of the churn afterwards.", EdgesOfChurn::temperatureAfterwards);
        Edges.of("15", "Throws `IllegalArgumentException` if the mass is out of range", EdgesOfChurn::loadBeyond);
        Edges.of("15", "Throws `UnsupportedOperationException` if denied: 1 (100 kilograms)", EdgesOfChurn::loadDenied);
        Edges.of("16", "Returns the mass of the rock in the churn.", EdgesOfChurn::mass);
        Edges.of("17", "Returns the temperature of the churn.", EdgesOfChurn::temperature);
        Edges.of("18", "Returns the smoothness of the churn.", EdgesOfChurn::smoothness);
        Edges.of("19", "Returns the stress of the churn.", EdgesOfChurn::stress);
        Edges.of("20", "- `minutes`: the number of minutes, 0 to 240", EdgesOfChurn::temperatureMinutes);
        Edges.of("20", "after a number of minutes, if nothing else happened.", EdgesOfChurn::temperatureForecast);
        Edges.of("20", "Throws `IllegalArgumentException` if the number of minutes is out of range",
                EdgesOfChurn::temperatureBeyond);
        Edges.of("21", "- `minutes`: the number of minutes, 0 to 240", EdgesOfChurn::smoothnessMinutes);
        Edges.of("21", "after a number of minutes, if nothing else happened.", EdgesOfChurn::smoothnessForecast);
        Edges.of("21", "Throws `IllegalArgumentException` if the number of minutes is out of range",
                EdgesOfChurn::smoothnessBeyond);
        Edges.of("22", "the greatest temperature that the churn would have, now", EdgesOfChurn::peakNow);
        Edges.of("22", "and after each minute until the cycle is finished, if nothing else happened.",
                EdgesOfChurn::peakLater);
    }

    // ---- load

    private static void masses() {
        for (int mass = -1; mass <= 102; mass++) {
            StoneChurn x = new StoneChurn();
            int one = mass;
            boolean right = mass >= 1 && mass <= 100;
            Due.is(right ? (Object) 20 : "IllegalArgumentException", Due.outcome(() -> x.load(one)));
            Due.is(right ? one : 0, x.mass());
        }
    }

    private static void temperatureAfterwards() {
        StoneChurn x = Setup.churn(50, 200, 0, 0);
        Due.is(110, x.load(50));
        StoneChurn y = Setup.churn(0, 200, 0, 0);
        Due.is(20, y.load(1));
        StoneChurn z = Setup.churn(99, 0, 0, 0);
        Due.is(0, z.load(1));
        // while the cycle is running it is as well
        StoneChurn w = Setup.churn(1, 60, 0, 0);
        Setup.cycle(w, "h2:5");
        w.start();
        Due.is(40, w.load(1));
        Due.is(true, w.isRunning());
    }

    private static void loadBeyond() {
        StoneChurn x = new StoneChurn();
        x.load(50);
        for (int mass : Edges.beyond(1, 100)) {
            Due.fails(ARGUMENT, () -> x.load(mass));
        }
        x.load(50);
        // also of a full churn, which is documented first
        for (int mass : Edges.beyond(1, 100)) {
            Due.fails(ARGUMENT, () -> x.load(mass));
        }
        Due.is(100, x.mass());
        Due.is(100, x.loadedMass());
        Due.is(2, x.undoCount());
        Due.fails(NONE, () -> x.denial());
    }

    private static void loadDenied() {
        int[][] fit = {{0, 100}, {1, 99}, {50, 50}, {99, 1}};
        for (int[] one : fit) {
            StoneChurn x = Setup.churn(one[0], 20, 0, 0);
            Due.is(20, x.load(one[1]));
            Due.is(100, x.mass());
            Due.denied(x, 1, 100, () -> x.load(1));
            Due.denied(x, 1, 100, () -> x.load(100));
            Due.is(100, x.mass());
        }
        int[][] tooMuch = {{1, 100}, {50, 51}, {99, 2}, {100, 1}};
        for (int[] one : tooMuch) {
            StoneChurn x = Setup.churn(one[0], 60, 50, 0);
            Due.denied(x, 1, 100, () -> x.load(one[1]));
            Setup.looks(x, one[0], 60, 50, 0);
            Due.is(one[0], x.loadedMass());
        }
    }

    // ---- readings

    private static void mass() {
        StoneChurn x = new StoneChurn();
        Due.is(0, x.mass());
        x.load(1);
        Due.is(1, x.mass());
        x.press(1);
        Due.is(0, x.mass());
        x.crush(0);
        Due.is(1, x.mass());
        x.load(99);
        Due.is(100, x.mass());
        Due.outcome(() -> x.load(1));
        Due.is(100, x.mass());
    }

    private static void temperature() {
        StoneChurn x = new StoneChurn();
        Setup.phase(x, 'c', 10, 1);
        Due.is(0, x.temperature());
        Setup.phase(x, 'h', 66, 1);
        Due.is(198, x.temperature());
        Setup.phase(x, 'h', 1, 1);
        Due.is(200, x.temperature());
        x.load(1);
        Due.is(20, x.temperature());
    }

    private static void smoothness() {
        StoneChurn x = Setup.churn(10, 120, 0, 0);
        Due.is(0, x.smoothness());
        Setup.phase(x, 't', 33, 3);
        Due.is(99, x.smoothness());
        Setup.phase(x, 't', 1, 3);
        Due.is(100, x.smoothness());
        x.load(90);
        Due.is(10, x.smoothness());
    }

    private static void stress() {
        StoneChurn x = Setup.churn(10, 121, 0, 0);
        Due.is(0, x.stress());
        Setup.phase(x, 't', 49, 2);
        Due.is(98, x.stress());
        Setup.phase(x, 't', 1, 2);
        Due.is(99, x.stress());
        x.load(90);
        Due.is(99, x.stress());
        Setup.phase(x, 'r', 1, 5);
        Due.is(94, x.stress());
    }

    // ---- forecasts

    /** A forecast. */
    private interface Forecast {
        int of(StoneChurn x);
    }

    private static void presentStays(StoneChurn x, Forecast forecast) {
        String before = Sight.state(x);
        int changes = x.undoCount();
        forecast.of(x);
        Due.is(before, Sight.state(x));
        Due.is(changes, x.undoCount());
    }

    /** Eight phases of 30 minutes, the last of which turns at 110 degrees. */
    private static StoneChurn longCycle() {
        StoneChurn x = new StoneChurn();
        Setup.cycle(x, "h30:1", "r30:1", "r30:1", "r30:1", "r30:1", "c30:5", "h30:1", "t30:1");
        x.load(10);
        x.start();
        return x;
    }

    private static void temperatureMinutes() {
        StoneChurn x = longCycle();
        int[][] cases = {{0, 20}, {1, 23}, {30, 110}, {31, 109}, {120, 20}, {151, 10}, {180, 0}, {181, 3}, {209, 87},
            {210, 90}, {239, 90}, {240, 90}};
        for (int[] one : cases) {
            Due.is(one[1], x.temperatureAfter(one[0]));
        }
    }

    private static void temperatureForecast() {
        StoneChurn x = Setup.churn(10, 100, 0, 0);
        Setup.cycle(x, "h3:5", "c2:5");
        // not running
        Due.is(100, x.temperatureAfter(0));
        Due.is(100, x.temperatureAfter(240));
        x.start();
        x.run(2);
        Due.is(130, x.temperatureAfter(0));
        Due.is(145, x.temperatureAfter(1));
        Due.is(135, x.temperatureAfter(2));
        Due.is(125, x.temperatureAfter(3));
        // after the end of the cycle
        Due.is(125, x.temperatureAfter(4));
        Due.is(125, x.temperatureAfter(240));
        x.press(5);
        presentStays(x, y -> y.temperatureAfter(240));
        presentStays(x, y -> y.temperatureAfter(1));
        x.stop();
        Due.is(130, x.temperatureAfter(240));
        presentStays(x, y -> y.temperatureAfter(240));
    }

    private static void temperatureBeyond() {
        StoneChurn x = longCycle();
        for (int minutes : Edges.beyond(0, 240)) {
            Due.fails(ARGUMENT, () -> x.temperatureAfter(minutes));
        }
        Due.is(20, x.temperatureAfter(0));
        Due.fails(NONE, () -> x.denial());
    }

    private static void smoothnessMinutes() {
        StoneChurn x = longCycle();
        int[][] cases = {{0, 0}, {1, 0}, {209, 0}, {210, 0}, {211, 1}, {239, 29}, {240, 30}};
        for (int[] one : cases) {
            Due.is(one[1], x.smoothnessAfter(one[0]));
        }
    }

    private static void smoothnessForecast() {
        StoneChurn x = Setup.churn(10, 110, 90, 0);
        Setup.cycle(x, "t3:4", "h1:5", "t2:5");
        Due.is(90, x.smoothnessAfter(0));
        Due.is(90, x.smoothnessAfter(240));
        x.start();
        x.run(1);
        Due.is(94, x.smoothnessAfter(0));
        Due.is(98, x.smoothnessAfter(1));
        Due.is(100, x.smoothnessAfter(2));
        Due.is(100, x.smoothnessAfter(5));
        Due.is(100, x.smoothnessAfter(6));
        Due.is(100, x.smoothnessAfter(240));
        x.press(5);
        presentStays(x, y -> y.smoothnessAfter(240));
        presentStays(x, y -> y.smoothnessAfter(1));
        x.stop();
        Due.is(94, x.smoothnessAfter(240));
        presentStays(x, y -> y.smoothnessAfter(240));
    }

    private static void smoothnessBeyond() {
        StoneChurn x = longCycle();
        for (int minutes : Edges.beyond(0, 240)) {
            Due.fails(ARGUMENT, () -> x.smoothnessAfter(minutes));
        }
        Due.is(0, x.smoothnessAfter(0));
        Due.fails(NONE, () -> x.denial());
    }

    private static void peakNow() {
        Due.is(20, new StoneChurn().peakTemperature());
        for (int degrees : new int[] {0, 19, 200}) {
            StoneChurn x = Setup.churn(10, degrees, 0, 0);
            Due.is(degrees, x.peakTemperature());
            // a cycle that is not running will not heat
            Setup.cycle(x, "h30:5");
            Due.is(degrees, x.peakTemperature());
        }
        StoneChurn y = Setup.churn(10, 150, 0, 0);
        Setup.cycle(y, "c5:1", "h1:1");
        y.start();
        Due.is(150, y.peakTemperature());
        y.run(1);
        Due.is(148, y.peakTemperature());
        y.run(4);
        Due.is(143, y.peakTemperature());
    }

    private static void peakLater() {
        StoneChurn x = Setup.churn(10, 50, 0, 0);
        Setup.cycle(x, "h1:5", "c2:5", "h2:3", "r1:1");
        x.start();
        // 65, 55, 45, 54, 63, 62: in the first minute, then in the last but one, then now
        Due.is(65, x.peakTemperature());
        x.run(1);
        Due.is(65, x.peakTemperature());
        x.run(1);
        Due.is(63, x.peakTemperature());
        x.run(3);
        Due.is(63, x.peakTemperature());
        x.run(1);
        Due.is(62, x.peakTemperature());
        // in the very last of 240 minutes, and what follows the cycle does not count
        StoneChurn y = Setup.churn(10, 20, 0, 0);
        Setup.cycle(y, "c30:1", "t30:1", "t30:1", "t30:1", "t30:1", "t30:1", "t30:1", "h30:1");
        y.start();
        Due.is(90, y.peakTemperature());
        presentStays(y, z -> z.peakTemperature());
        Due.is(240, y.minutesLeft());
        y.run(238);
        Due.is(84, y.temperature());
        Due.is(90, y.peakTemperature());
    }
}
