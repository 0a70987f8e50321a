/** Promises 36 to 41: statistics. */
public final class StatisticsTest {
    private static final Class<IllegalArgumentException> ARGUMENT = IllegalArgumentException.class;
    private static final Class<ArithmeticException> ARITHMETIC = ArithmeticException.class;

    private StatisticsTest() {
    }

    public static void main(String[] args) {
        minute();
        gradedCount();
        masses();
        meanFirmness();
        coolShare();
        Due.end("StatisticsTest");
    }

    private static void minute() {
        Due.promise("36");
        StoneChurn x = new StoneChurn();
        x.run(1);
        Due.is(1, x.minute());
        x.run(240);
        Due.is(241, x.minute());
        x.addPhase('h', 30, 1);
        x.start();
        x.run(31);
        Due.is(272, x.minute());
        x.temperatureAfter(100);
        x.smoothnessAfter(100);
        Due.fails(ARGUMENT, () -> x.run(241));
        Due.is(272, x.minute());
    }

    private static void gradedCount() {
        Due.promise("37");
        StoneChurn x = new StoneChurn();
        for (char grade : new char[] {'A', 'f', '`', 'z', '0', (char) 0, (char) 65535}) {
            Due.fails(ARGUMENT, () -> x.gradedCount(grade));
        }
        x.load(100);
        x.addPhase('h', 10, 1);
        x.start();
        x.run(10);
        x.press(2);
        x.removePhase(0);
        x.addPhase('t', 4, 5);
        for (int i = 1; i <= 5; i++) {
            x.start();
            x.run(4);
            x.press(i);
        }
        // firmness 0, 20, 40, 60, 80, 100
        x.run(10);
        for (int i = 0; i < 6; i++) {
            x.gradePat(0);
        }
        int[] due = {2, 1, 1, 1, 1};
        for (int i = 0; i < 5; i++) {
            Due.is(due[i], x.gradedCount((char) ('a' + i)));
        }
        Due.promise("39");
        Due.is(17, x.gradedMass());
    }

    private static void masses() {
        StoneChurn x = new StoneChurn();
        Due.promise("38");
        Due.is(0, x.loadedMass());
        x.load(50);
        x.load(30);
        Due.is(80, x.loadedMass());
        x.press(20);
        x.press(10);
        Due.is(80, x.loadedMass());
        x.crush(0);
        Due.is(80, x.loadedMass());
        Due.promise("39");
        Due.is(0, x.gradedMass());
        x.gradePat(0);
        Due.is(10, x.gradedMass());
        Due.promise("38");
        Due.is(80, x.loadedMass());
        x.load(30);
        Due.is(110, x.loadedMass());
        Due.is(100, x.mass());
        x.press(20);
        x.gradePat(0);
        Due.promise("39");
        Due.is(30, x.gradedMass());
    }

    private static void meanFirmness() {
        Due.promise("40");
        StoneChurn x = new StoneChurn();
        Due.fails(ARITHMETIC, () -> x.meanFirmness());
        x.load(100);
        x.press(1);
        Due.is(0.0, x.meanFirmness());
        x.addPhase('h', 20, 1);
        x.addPhase('t', 10, 1);
        x.start();
        x.run(30);
        x.press(1);
        Due.is(5.0, x.meanFirmness());
        x.press(1);
        Due.is(20.0 / 3.0, x.meanFirmness());
        x.removePhase(1);
        x.start();
        x.run(20);
        x.press(1);
        x.press(1);
        x.press(1);
        x.press(1);
        // 0 + 10 + 10 - 5 * 4
        Due.is(0.0, x.meanFirmness());
        x.crush(1);
        Due.is(-10.0 / 6.0, x.meanFirmness());
        x.crush(0);
        Due.is(-2.0, x.meanFirmness());
        x.press(20);
        // two crushed pats have taken the smoothness of the churn from 10 to 8
        Due.is(8, x.smoothness());
        Due.is(-17.0 / 6.0, x.meanFirmness());
        for (int i = 0; i < 6; i++) {
            x.crush(0);
        }
        Due.fails(ARITHMETIC, () -> x.meanFirmness());
    }

    private static void coolShare() {
        Due.promise("41");
        StoneChurn x = new StoneChurn();
        Due.fails(ARITHMETIC, () -> x.coolShare());
        x.load(100);
        x.press(1);
        Due.is(1.0f, x.coolShare());
        x.addPhase('h', 20, 1);
        x.start();
        x.run(20);
        x.press(1);
        Due.is(0.5f, x.coolShare());
        x.press(1);
        Due.is(1.0f / 3.0f, x.coolShare());
        x.crush(0);
        Due.is(0.0f, x.coolShare());
        x.run(10);
        Due.is(1.0f, x.coolShare());
        x.crush(0);
        x.crush(0);
        Due.fails(ARITHMETIC, () -> x.coolShare());
    }
}
