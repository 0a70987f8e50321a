/** Promises 15 to 22: the churn. */
public final class ChurnTest {
    private static final Class<IllegalArgumentException> ARGUMENT = IllegalArgumentException.class;
    private static final Class<UnsupportedOperationException> DENIED = UnsupportedOperationException.class;

    private ChurnTest() {
    }

    public static void main(String[] args) {
        load();
        loadMixes();
        mass();
        heat();
        cool();
        turn();
        rest();
        stress();
        forecasts();
        peak();
        Due.end("ChurnTest");
    }

    /** Lets one phase of a kind take place from its beginning to its end. */
    private static void phase(StoneChurn x, char kind, int minutes, int level) {
        while (x.phaseCount() > 0) {
            x.removePhase(0);
        }
        x.addPhase(kind, minutes, level);
        x.start();
        Due.is(minutes, x.run(minutes));
        Due.is(false, x.isRunning());
    }

    private static void load() {
        Due.promise("15");
        StoneChurn x = new StoneChurn();
        for (int mass : new int[] {0, 101, -1, Integer.MAX_VALUE, Integer.MIN_VALUE}) {
            Due.fails(ARGUMENT, () -> x.load(mass));
        }
        Due.is(20, x.load(1));
        Due.is(20, x.load(99));
        Due.is(100, x.mass());
        Due.fails(DENIED, () -> x.load(1));
        Due.is(1, x.denial());
        Due.is(100, x.denialDetail());
        Due.fails(ARGUMENT, () -> x.load(101));
        Due.is(100, x.mass());
        Due.is(2, x.undoCount());
        StoneChurn y = new StoneChurn();
        Due.is(20, y.load(100));
        StoneChurn z = new StoneChurn();
        z.load(60);
        Due.fails(DENIED, () -> z.load(41));
        Due.is(60, z.mass());
        Due.is(60, z.loadedMass());
        Due.is(20, z.load(40));
    }

    private static void loadMixes() {
        Due.promise("15");
        StoneChurn x = new StoneChurn();
        x.load(30);
        phase(x, 'h', 10, 3);
        phase(x, 't', 9, 3);
        Due.is(110, x.temperature());
        Due.is(27, x.smoothness());
        // (110 * 30 + 20 * 7) / 37 = 3440 / 37 = 92.97; 27 * 30 / 37 = 21.89
        Due.is(92, x.load(7));
        Due.is(92, x.temperature());
        Due.is(21, x.smoothness());
        Due.is(37, x.mass());
        // an empty churn keeps its temperature until rock is loaded, which then alone decides
        StoneChurn y = new StoneChurn();
        phase(y, 'h', 10, 5);
        phase(y, 't', 4, 5);
        Due.is(170, y.temperature());
        Due.is(20, y.stress());
        Due.is(20, y.load(5));
        Due.is(0, y.smoothness());
        Due.is(20, y.stress());
        // below 20 degrees
        StoneChurn z = new StoneChurn();
        z.load(10);
        phase(z, 'c', 2, 5);
        Due.is(0, z.temperature());
        Due.is(6, z.load(5));
        // loading while the cycle is running is not denied
        z.addPhase('r', 5, 1);
        z.start();
        // (6 * 15 + 20 * 1) / 16 = 110 / 16 = 6.9
        Due.is(6, z.load(1));
    }

    private static void mass() {
        Due.promise("16");
        StoneChurn x = new StoneChurn();
        Due.is(0, x.mass());
        x.load(20);
        Due.is(20, x.mass());
        x.load(3);
        Due.is(23, x.mass());
        x.press(20);
        Due.is(3, x.mass());
        x.press(3);
        Due.is(0, x.mass());
        x.crush(0);
        Due.is(20, x.mass());
    }

    private static void heat() {
        Due.promise("17");
        for (int level = 1; level <= 5; level++) {
            StoneChurn x = new StoneChurn();
            phase(x, 'h', 1, level);
            Due.is(20 + 3 * level, x.temperature());
            phase(x, 'h', 7, level);
            Due.is(20 + 24 * level, x.temperature());
            Due.is(0, x.stress());
            Due.is(0, x.smoothness());
        }
        StoneChurn y = new StoneChurn();
        phase(y, 'h', 12, 5);
        Due.is(200, y.temperature());
        phase(y, 'h', 1, 1);
        Due.is(200, y.temperature());
        StoneChurn z = new StoneChurn();
        phase(z, 'h', 11, 5);
        phase(z, 'h', 1, 4);
        Due.is(197, z.temperature());
        phase(z, 'h', 1, 2);
        Due.is(200, z.temperature());
    }

    private static void cool() {
        Due.promise("17");
        for (int level = 1; level <= 5; level++) {
            StoneChurn x = new StoneChurn();
            phase(x, 'h', 10, 5);
            phase(x, 'c', 3, level);
            Due.is(170 - 6 * level, x.temperature());
            phase(x, 'c', 30, level);
            Due.is(Math.max(0, 170 - 66 * level), x.temperature());
        }
        StoneChurn y = new StoneChurn();
        phase(y, 'r', 1, 1);
        phase(y, 'c', 3, 3);
        Due.is(2, y.temperature());
        phase(y, 'c', 1, 2);
        Due.is(0, y.temperature());
        phase(y, 'c', 5, 5);
        Due.is(0, y.temperature());
    }

    private static void turn() {
        Due.promise("18");
        // from 20 degrees: 38, 41 and so on; 40 by cooling from 50
        StoneChurn x = new StoneChurn();
        phase(x, 'h', 6, 1);
        phase(x, 'h', 1, 1);
        phase(x, 'c', 1, 1);
        Due.is(39, x.temperature());
        phase(x, 't', 5, 5);
        Due.is(0, x.smoothness());
        Due.is(0, x.stress());
        StoneChurn y = new StoneChurn();
        phase(y, 'h', 2, 5);
        phase(y, 'c', 1, 5);
        Due.is(40, y.temperature());
        phase(y, 't', 3, 4);
        Due.is(12, y.smoothness());
        Due.is(0, y.stress());
        Due.is(40, y.temperature());
        phase(y, 'h', 5, 5);
        phase(y, 'h', 1, 3);
        phase(y, 'c', 1, 2);
        Due.is(120, y.temperature());
        phase(y, 't', 2, 5);
        Due.is(22, y.smoothness());
        Due.is(0, y.stress());
        phase(y, 't', 15, 5);
        Due.is(97, y.smoothness());
        phase(y, 't', 1, 5);
        Due.is(100, y.smoothness());
        phase(y, 't', 1, 1);
        Due.is(100, y.smoothness());
        phase(y, 'h', 1, 1);
        phase(y, 'c', 1, 1);
        Due.is(121, y.temperature());
        phase(y, 't', 1, 2);
        Due.is(100, y.smoothness());
        Due.is(2, y.stress());
    }

    private static void rest() {
        Due.promise("17");
        StoneChurn x = new StoneChurn();
        phase(x, 'r', 3, 5);
        Due.is(20, x.temperature());
        phase(x, 'h', 1, 1);
        phase(x, 'r', 1, 5);
        Due.is(22, x.temperature());
        phase(x, 'r', 5, 5);
        Due.is(20, x.temperature());
        phase(x, 'c', 2, 1);
        Due.is(16, x.temperature());
        phase(x, 'r', 1, 5);
        Due.is(17, x.temperature());
        phase(x, 'r', 30, 1);
        Due.is(20, x.temperature());
    }

    private static void stress() {
        Due.promise("19");
        StoneChurn x = new StoneChurn();
        phase(x, 'h', 20, 5);
        phase(x, 't', 19, 5);
        Due.is(95, x.stress());
        phase(x, 't', 1, 3);
        Due.is(98, x.stress());
        phase(x, 't', 1, 5);
        Due.is(99, x.stress());
        phase(x, 't', 1, 1);
        Due.is(99, x.stress());
        Due.is(0, x.smoothness());
        phase(x, 'r', 2, 5);
        Due.is(89, x.stress());
        Due.is(198, x.temperature());
        phase(x, 'h', 1, 1);
        phase(x, 'c', 1, 1);
        Due.is(89, x.stress());
        phase(x, 'r', 17, 5);
        Due.is(4, x.stress());
        phase(x, 'r', 1, 5);
        Due.is(0, x.stress());
        phase(x, 'r', 1, 1);
        Due.is(0, x.stress());
    }

    private static void forecasts() {
        StoneChurn x = new StoneChurn();
        for (int minutes : new int[] {-1, 241, Integer.MAX_VALUE, Integer.MIN_VALUE}) {
            Due.promise("20");
            Due.fails(ARGUMENT, () -> x.temperatureAfter(minutes));
            Due.promise("21");
            Due.fails(ARGUMENT, () -> x.smoothnessAfter(minutes));
        }
        x.load(10);
        x.addPhase('h', 10, 2);
        x.addPhase('t', 5, 4);
        x.addPhase('c', 10, 3);
        forecast(x, 0, 20, 0);
        forecast(x, 240, 20, 0);
        x.start();
        x.run(1);
        forecast(x, 0, 26, 0);
        forecast(x, 1, 32, 0);
        forecast(x, 9, 80, 0);
        forecast(x, 10, 80, 4);
        forecast(x, 14, 80, 20);
        forecast(x, 15, 74, 20);
        forecast(x, 24, 20, 20);
        forecast(x, 25, 20, 20);
        forecast(x, 240, 20, 20);
        Due.promise("20");
        Due.is(26, x.temperature());
        Due.is(0, x.presentPhase());
        Due.is(1, x.minute());
        x.stop();
        forecast(x, 240, 26, 0);
    }

    private static void forecast(StoneChurn x, int minutes, int temperature, int smoothness) {
        Due.promise("20");
        Due.is(temperature, x.temperatureAfter(minutes));
        Due.promise("21");
        Due.is(smoothness, x.smoothnessAfter(minutes));
    }

    private static void peak() {
        Due.promise("22");
        StoneChurn x = new StoneChurn();
        Due.is(20, x.peakTemperature());
        x.addPhase('c', 3, 2);
        x.addPhase('h', 20, 3);
        x.addPhase('c', 30, 5);
        x.addPhase('h', 5, 1);
        Due.is(20, x.peakTemperature());
        x.start();
        // 20 - 12 = 8; 8 + 180 = 188
        Due.is(188, x.peakTemperature());
        x.run(23);
        Due.is(188, x.temperature());
        Due.is(188, x.peakTemperature());
        x.run(1);
        Due.is(178, x.peakTemperature());
        x.run(29);
        Due.is(0, x.temperature());
        Due.is(15, x.peakTemperature());
        x.run(3);
        x.stop();
        Due.is(9, x.peakTemperature());
        StoneChurn y = new StoneChurn();
        for (int i = 0; i < 7; i++) {
            y.addPhase('c', 30, 5);
        }
        y.addPhase('h', 30, 1);
        y.start();
        Due.is(90, y.peakTemperature());
        y.run(1);
        Due.is(90, y.peakTemperature());
    }
}
