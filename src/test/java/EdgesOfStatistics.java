import java.util.NoSuchElementException;

/** The edges of promises 36 to 41. */
final class EdgesOfStatistics {
    private static final Class<IllegalArgumentException> ARGUMENT = IllegalArgumentException.class;
    private static final Class<ArithmeticException> ARITHMETIC = ArithmeticException.class;
    private static final Class<NoSuchElementException> NONE = NoSuchElementException.class;

    private EdgesOfStatistics() {
    }

    static void test() {
        Edges.of("36", "Returns the number of minutes that have passed.", EdgesOfStatistics::minute);
        Edges.of("37", "Returns the number of pats that were given a grade so far.", EdgesOfStatistics::gradedCount);
        Edges.of("37", "- `grade`: the grade, 'a' to 'e'", EdgesOfStatistics::grades);
        Edges.of("37", "Throws `IllegalArgumentException` if there is no such grade", EdgesOfStatistics::noSuchGrade);
        Edges.of("38", "Returns the mass that has been loaded so far, without crushed pats.",
                EdgesOfStatistics::loadedMass);
        Edges.of("38", "it always equals the mass in the churn, of the pats on the table and of the graded pats"
                + " together.", EdgesOfStatistics::allMasses);
        Edges.of("39", "Returns the mass of the pats that have been graded so far.", EdgesOfStatistics::gradedMass);
        Edges.of("40", "the sum converted to double, divided by their number converted to double.",
                EdgesOfStatistics::meanFirmness);
        Edges.of("40", "Throws `ArithmeticException` if there are no pats", EdgesOfStatistics::noMean);
        Edges.of("41", "Returns the share of pats on the table that are cool, both numbers converted to float.",
                EdgesOfStatistics::coolShare);
        Edges.of("41", "Throws `ArithmeticException` if there are no pats", EdgesOfStatistics::noShare);
    }

    private static void minute() {
        StoneChurn x = new StoneChurn();
        Due.is(0, x.minute());
        x.run(1);
        Due.is(1, x.minute());
        Setup.cycle(x, "h1:1");
        x.start();
        x.run(240);
        Due.is(241, x.minute());
        Due.outcome(() -> x.run(0));
        Due.outcome(() -> x.run(241));
        x.temperatureAfter(240);
        x.smoothnessAfter(240);
        Due.is(241, x.minute());
        x.undo();
        Due.is(1, x.minute());
    }

    private static void gradedCount() {
        StoneChurn x = new StoneChurn();
        for (char grade = 'a'; grade <= 'e'; grade++) {
            Due.is(0, x.gradedCount(grade));
        }
        x.load(100);
        for (int i = 1; i <= 20; i++) {
            x.press(1);
            Due.is(i - 1, x.gradedCount('e'));
            x.gradePat(0);
            Due.is(i, x.gradedCount('e'));
        }
        // a pat that is crushed was given no grade, and one that is hot gets none
        x.press(1);
        x.crush(0);
        Setup.phase(x, 'h', 30, 5);
        x.press(1);
        Due.outcome(() -> x.gradePat(0));
        Due.is(20, x.gradedCount('e'));
        Due.is(0, x.gradedCount('a') + x.gradedCount('b') + x.gradedCount('c') + x.gradedCount('d'));
    }

    private static void grades() {
        int[] smoothness = {100, 79, 59, 39, 19};
        for (int i = 0; i < 5; i++) {
            StoneChurn x = Setup.churn(10, 60, smoothness[i], 0);
            x.press(1);
            x.run(6);
            x.gradePat(0);
            for (int j = 0; j < 5; j++) {
                Due.is(i == j ? 1 : 0, x.gradedCount((char) ('a' + j)));
            }
        }
    }

    private static void noSuchGrade() {
        for (int block = 0; block < 256; block++) {
            StoneChurn x = new StoneChurn();
            for (int i = 0; i < 256; i++) {
                char grade = (char) (256 * block + i);
                if (grade < 'a' || grade > 'e') {
                    Due.fails(ARGUMENT, () -> x.gradedCount(grade));
                }
            }
            Due.fails(NONE, () -> x.denial());
        }
    }

    private static void loadedMass() {
        StoneChurn x = new StoneChurn();
        Due.is(0, x.loadedMass());
        x.load(100);
        Due.is(100, x.loadedMass());
        Due.outcome(() -> x.load(1));
        Due.outcome(() -> x.load(0));
        Due.is(100, x.loadedMass());
        x.press(20);
        x.crush(0);
        Due.is(100, x.loadedMass());
        x.press(1);
        x.load(1);
        Due.is(101, x.loadedMass());
        x.gradePat(0);
        Due.is(101, x.loadedMass());
        x.undo();
        x.undo();
        Due.is(100, x.loadedMass());
    }

    private static void masses(StoneChurn x) {
        int sum = x.mass() + x.gradedMass();
        for (int i = 0; i < x.patCount(); i++) {
            sum += x.patMass(i);
        }
        Due.is(x.loadedMass(), sum);
    }

    private static void allMasses() {
        StoneChurn x = new StoneChurn();
        masses(x);
        for (int round = 0; round < 3; round++) {
            for (int i = 0; i < 4; i++) {
                Due.outcome(() -> x.load(60 - x.mass()));
                masses(x);
                x.press(20 - 3 * i);
                masses(x);
            }
            x.gradePat(3);
            masses(x);
            x.crush(1);
            masses(x);
            x.gradePat(0);
            masses(x);
            x.crush(0);
            masses(x);
        }
        Due.is(3 * (20 + 11), x.gradedMass());
        x.undo();
        masses(x);
        x.undo();
        masses(x);
    }

    private static void gradedMass() {
        StoneChurn x = new StoneChurn();
        Due.is(0, x.gradedMass());
        x.load(100);
        x.press(20);
        x.press(1);
        Due.is(0, x.gradedMass());
        x.gradePat(1);
        Due.is(1, x.gradedMass());
        x.crush(0);
        Due.is(1, x.gradedMass());
        x.press(20);
        x.gradePat(0);
        Due.is(21, x.gradedMass());
        x.undo();
        Due.is(1, x.gradedMass());
    }

    private static void meanFirmness() {
        StoneChurn x = Setup.churn(100, 60, 100, 0);
        x.press(1);
        Due.is(100.0, x.meanFirmness());
        x.load(1);
        Due.is(99, x.smoothness());
        x.press(1);
        Due.is(199.0 / 2.0, x.meanFirmness());
        x.press(1);
        Due.is(298.0 / 3.0, x.meanFirmness());
        // below 0, and of a full table; such a mean is not rounded to an integer or a float
        StoneChurn y = Setup.churn(100, 200, 0, 99);
        y.press(20);
        Due.is(-150.0, y.meanFirmness());
        Setup.phase(y, 'r', 2, 5);
        y.press(1);
        y.press(1);
        Due.is(-420.0 / 3.0, y.meanFirmness());
        Setup.phase(y, 'r', 2, 5);
        for (int i = 3; i < 12; i++) {
            y.press(1);
        }
        Due.is(-1500.0 / 12.0, y.meanFirmness());
        y.crush(0);
        Due.is(-1350.0 / 11.0, y.meanFirmness());
        // the mean of as many pats above as below 0
        StoneChurn z = Setup.churn(100, 100, 15, 0);
        z.press(1);
        Setup.phase(z, 'h', 10, 5);
        Setup.phase(z, 't', 2, 5);
        z.press(1);
        Due.is(0.0, z.meanFirmness());
    }

    private static void noMean() {
        StoneChurn x = new StoneChurn();
        Due.fails(ARITHMETIC, () -> x.meanFirmness());
        x.load(1);
        Due.fails(ARITHMETIC, () -> x.meanFirmness());
        x.press(1);
        Due.is(0.0, x.meanFirmness());
        x.crush(0);
        Due.fails(ARITHMETIC, () -> x.meanFirmness());
        x.press(1);
        x.gradePat(0);
        Due.fails(ARITHMETIC, () -> x.meanFirmness());
        Due.fails(NONE, () -> x.denial());
    }

    private static void coolShare() {
        StoneChurn x = Setup.churn(100, 31, 0, 0);
        for (int i = 1; i <= 12; i++) {
            x.press(1);
            Due.is(0.0f, x.coolShare());
        }
        x.run(1);
        Due.is(1.0f, x.coolShare());
        for (int cool = 11; cool >= 1; cool--) {
            x.gradePat(0);
            x.press(1);
            Due.is((float) cool / 12.0f, x.coolShare());
        }
        x.crush(11);
        Due.is(1.0f / 11.0f, x.coolShare());
    }

    private static void noShare() {
        StoneChurn x = new StoneChurn();
        Due.fails(ARITHMETIC, () -> x.coolShare());
        x.load(1);
        Due.fails(ARITHMETIC, () -> x.coolShare());
        x.press(1);
        Due.is(1.0f, x.coolShare());
        x.crush(0);
        Due.fails(ARITHMETIC, () -> x.coolShare());
        x.press(1);
        x.gradePat(0);
        Due.fails(ARITHMETIC, () -> x.coolShare());
        Due.fails(NONE, () -> x.denial());
    }
}
