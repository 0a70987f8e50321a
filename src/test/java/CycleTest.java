import java.util.NoSuchElementException;

/** Promises 1 to 14: a new object, and the cycle. */
public final class CycleTest {
    private static final Class<IllegalArgumentException> ARGUMENT = IllegalArgumentException.class;
    private static final Class<UnsupportedOperationException> DENIED = UnsupportedOperationException.class;
    private static final Class<IndexOutOfBoundsException> INDEX = IndexOutOfBoundsException.class;
    private static final Class<NoSuchElementException> NONE = NoSuchElementException.class;

    private CycleTest() {
    }

    public static void main(String[] args) {
        newObject();
        addPhase();
        addPhaseDenied();
        removePhase();
        start();
        stop();
        run();
        runWithoutCycle();
        phases();
        isRunning();
        presentPhase();
        minutesLeft();
        finishedCycles();
        Due.end("CycleTest");
    }

    private static void newObject() {
        Due.promise("1");
        StoneChurn x = new StoneChurn();
        Due.is(0, x.phaseCount());
        Due.is(0, x.patCount());
        Due.is(0, x.mass());
        Due.is(20, x.temperature());
        Due.is(0, x.smoothness());
        Due.is(0, x.stress());
        Due.is(0, x.minute());
        Due.is(false, x.isRunning());
        Due.is(0, x.finishedCycles());
        Due.is(0, x.loadedMass());
        Due.is(0, x.gradedMass());
        Due.is(0, x.undoCount());
        Due.is(20, x.peakTemperature());
        for (char grade = 'a'; grade <= 'e'; grade++) {
            Due.is(0, x.gradedCount(grade));
        }
        x.addPhase('h', 1, 1);
        Due.is(0, new StoneChurn().phaseCount());
    }

    private static void addPhase() {
        Due.promise("2");
        StoneChurn x = new StoneChurn();
        Due.is(0, x.addPhase('h', 1, 1));
        Due.is(1, x.addPhase('c', 30, 5));
        Due.is(2, x.addPhase('t', 15, 3));
        Due.is(3, x.addPhase('r', 2, 2));
        Due.is("h1:1 c30:5 t15:3 r2:2", Due.line(x, x.writeCycle()));
        for (char kind : new char[] {'a', 'H', 'b', 'd', 'g', 'i', 's', 'u', 'q', ' ', (char) 0, (char) 65535}) {
            Due.fails(ARGUMENT, () -> x.addPhase(kind, 1, 1));
        }
        for (int minutes : new int[] {0, 31, -1, Integer.MAX_VALUE, Integer.MIN_VALUE}) {
            Due.fails(ARGUMENT, () -> x.addPhase('h', minutes, 1));
        }
        for (int level : new int[] {0, 6, -1, Integer.MAX_VALUE, Integer.MIN_VALUE}) {
            Due.fails(ARGUMENT, () -> x.addPhase('h', 1, level));
        }
        Due.is(4, x.phaseCount());
        Due.is(4, x.undoCount());
    }

    private static void addPhaseDenied() {
        Due.promise("2");
        StoneChurn x = new StoneChurn();
        for (int i = 0; i < 8; i++) {
            Due.is(i, x.addPhase('h', 2, 1));
        }
        Due.fails(DENIED, () -> x.addPhase('h', 2, 1));
        Due.is(1, x.denial());
        Due.is(8, x.denialDetail());
        Due.is(8, x.phaseCount());
        x.start();
        x.run(3);
        Due.fails(DENIED, () -> x.addPhase('h', 2, 1));
        Due.is(2, x.denial());
        Due.is(1, x.denialDetail());
        x.load(1);
        Due.fails(DENIED, () -> x.load(100));
        Due.fails(ARGUMENT, () -> x.addPhase('x', 2, 1));
        Due.fails(ARGUMENT, () -> x.addPhase('h', 0, 1));
        Due.is(1, x.denial());
        Due.is(100, x.denialDetail());
    }

    private static void removePhase() {
        Due.promise("3");
        StoneChurn x = new StoneChurn();
        Due.fails(INDEX, () -> x.removePhase(0));
        x.addPhase('h', 1, 1);
        x.addPhase('c', 2, 2);
        x.addPhase('t', 3, 3);
        x.addPhase('r', 4, 4);
        Due.fails(INDEX, () -> x.removePhase(-1));
        Due.fails(INDEX, () -> x.removePhase(4));
        Due.fails(INDEX, () -> x.removePhase(Integer.MAX_VALUE));
        Due.is(3, x.removePhase(1));
        Due.is("h1:1 t3:3 r4:4", Due.line(x, x.writeCycle()));
        Due.is(2, x.removePhase(2));
        Due.is("h1:1 t3:3", Due.line(x, x.writeCycle()));
        Due.is(2, x.addPhase('c', 30, 5));
        Due.is(2, x.removePhase(0));
        Due.is("t3:3 c30:5", Due.line(x, x.writeCycle()));
        x.start();
        x.run(4);
        Due.fails(DENIED, () -> x.removePhase(0));
        Due.is(2, x.denial());
        Due.is(1, x.denialDetail());
        Due.fails(INDEX, () -> x.removePhase(2));
        Due.is(2, x.phaseCount());
        x.stop();
        Due.is(1, x.removePhase(0));
        Due.is(0, x.removePhase(0));
    }

    private static void start() {
        Due.promise("4");
        StoneChurn x = new StoneChurn();
        Due.fails(DENIED, () -> x.start());
        Due.is(4, x.denial());
        Due.is(0, x.denialDetail());
        x.addPhase('h', 3, 1);
        x.addPhase('c', 4, 1);
        Due.is(7, x.start());
        Due.is(true, x.isRunning());
        x.run(5);
        Due.fails(DENIED, () -> x.start());
        Due.is(2, x.denial());
        Due.is(1, x.denialDetail());
        x.stop();
        Due.is(7, x.start());
        Due.is(0, x.presentPhase());
        x.run(7);
        Due.is(1, x.finishedCycles());
        x.removePhase(0);
        x.removePhase(0);
        Due.fails(DENIED, () -> x.start());
        Due.is(4, x.denial());
        Due.is(1, x.denialDetail());
    }

    private static void stop() {
        Due.promise("5");
        StoneChurn x = new StoneChurn();
        Due.fails(DENIED, () -> x.stop());
        Due.is(3, x.denial());
        Due.is(0, x.denialDetail());
        x.addPhase('h', 3, 1);
        x.addPhase('c', 4, 1);
        x.start();
        Due.is(7, x.stop());
        Due.is(false, x.isRunning());
        x.start();
        x.run(4);
        Due.is(3, x.stop());
        Due.is(0, x.finishedCycles());
        Due.is(27, x.temperature());
        x.run(10);
        Due.is(27, x.temperature());
        x.start();
        x.run(7);
        Due.fails(DENIED, () -> x.stop());
        Due.is(3, x.denial());
        Due.is(1, x.denialDetail());
    }

    private static void run() {
        Due.promise("6");
        StoneChurn x = new StoneChurn();
        for (int minutes : new int[] {0, 241, -1, Integer.MAX_VALUE, Integer.MIN_VALUE}) {
            Due.fails(ARGUMENT, () -> x.run(minutes));
        }
        Due.is(0, x.minute());
        Due.is(0, x.undoCount());
        x.addPhase('h', 2, 5);
        x.addPhase('c', 3, 2);
        x.start();
        Due.is(1, x.run(1));
        Due.is(35, x.temperature());
        Due.is(1, x.run(1));
        Due.is(50, x.temperature());
        Due.is(1, x.run(1));
        Due.is(46, x.temperature());
        Due.is(2, x.run(240));
        Due.is(38, x.temperature());
        Due.is(243, x.minute());
        Due.is(0, x.run(240));
        x.start();
        Due.is(5, x.run(5));
        Due.is(2, x.finishedCycles());
    }

    private static void runWithoutCycle() {
        Due.promise("6");
        StoneChurn x = new StoneChurn();
        x.load(50);
        x.addPhase('h', 10, 5);
        x.start();
        x.run(10);
        x.press(10);
        Due.is(170, x.temperature());
        Due.is(0, x.run(3));
        Due.is(170, x.temperature());
        Due.is(155, x.patTemperature(0));
    }

    private static void phases() {
        StoneChurn x = new StoneChurn();
        Due.promise("7");
        Due.is(0, x.phaseCount());
        Due.promise("8");
        Due.fails(INDEX, () -> x.phaseKind(0));
        Due.promise("9");
        Due.fails(INDEX, () -> x.phaseMinutes(0));
        String kinds = "hctrrtch";
        for (int i = 0; i < 8; i++) {
            x.addPhase(kinds.charAt(i), 30 - i, 1);
            Due.promise("7");
            Due.is(i + 1, x.phaseCount());
        }
        for (int i = 0; i < 8; i++) {
            Due.promise("8");
            Due.is(kinds.charAt(i), x.phaseKind(i));
            Due.promise("9");
            Due.is(30 - i, x.phaseMinutes(i));
        }
        for (int phase : new int[] {-1, 8, 9, Integer.MAX_VALUE, Integer.MIN_VALUE}) {
            Due.promise("8");
            Due.fails(INDEX, () -> x.phaseKind(phase));
            Due.promise("9");
            Due.fails(INDEX, () -> x.phaseMinutes(phase));
        }
        x.removePhase(7);
        Due.promise("8");
        Due.fails(INDEX, () -> x.phaseKind(7));
        Due.promise("9");
        Due.fails(INDEX, () -> x.phaseMinutes(7));
        Due.promise("7");
        Due.is(7, x.phaseCount());
    }

    private static void isRunning() {
        Due.promise("10");
        StoneChurn x = new StoneChurn();
        Due.is(false, x.isRunning());
        x.addPhase('r', 2, 1);
        Due.is(false, x.isRunning());
        x.start();
        Due.is(true, x.isRunning());
        x.run(1);
        Due.is(true, x.isRunning());
        x.run(1);
        Due.is(false, x.isRunning());
    }

    private static void presentPhase() {
        Due.promise("11");
        StoneChurn x = new StoneChurn();
        Due.fails(NONE, () -> x.presentPhase());
        x.addPhase('r', 2, 1);
        x.addPhase('r', 1, 1);
        x.addPhase('r', 1, 1);
        Due.fails(NONE, () -> x.presentPhase());
        x.start();
        Due.is(0, x.presentPhase());
        x.run(1);
        Due.is(0, x.presentPhase());
        x.run(1);
        Due.is(1, x.presentPhase());
        x.run(1);
        Due.is(2, x.presentPhase());
        x.run(1);
        Due.fails(NONE, () -> x.presentPhase());
        x.start();
        x.run(2);
        x.stop();
        Due.fails(NONE, () -> x.presentPhase());
        x.start();
        Due.is(0, x.presentPhase());
        x.run(1);
        x.stop();
        x.start();
        x.run(1);
        Due.is(0, x.presentPhase());
    }

    private static void minutesLeft() {
        StoneChurn x = new StoneChurn();
        minutesLeftIs(x, 0);
        for (int i = 0; i < 8; i++) {
            x.addPhase('h', 30, 5);
        }
        minutesLeftIs(x, 0);
        x.start();
        minutesLeftIs(x, 240);
        for (int left = 239; left >= 205; left--) {
            x.run(1);
            minutesLeftIs(x, left);
        }
        Due.is(35, x.minute());
        x.run(204);
        minutesLeftIs(x, 1);
        x.run(1);
        minutesLeftIs(x, 0);
        x.start();
        x.run(45);
        minutesLeftIs(x, 195);
        Due.is(195, x.stop());
        minutesLeftIs(x, 0);
    }

    private static void minutesLeftIs(StoneChurn x, int due) {
        Due.promise("12");
        Due.is(due, x.minutesLeft());
        Due.promise("13");
        Due.is(due, x.minutesLeftByPhases());
    }

    private static void finishedCycles() {
        Due.promise("14");
        StoneChurn x = new StoneChurn();
        x.addPhase('t', 3, 1);
        x.start();
        x.run(2);
        Due.is(0, x.finishedCycles());
        x.run(1);
        Due.is(1, x.finishedCycles());
        x.start();
        x.run(1);
        x.stop();
        Due.is(1, x.finishedCycles());
        x.start();
        x.run(240);
        Due.is(2, x.finishedCycles());
        x.minutesLeft();
        x.peakTemperature();
        x.temperatureAfter(240);
        Due.is(2, x.finishedCycles());
    }
}
