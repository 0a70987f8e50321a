import java.util.NoSuchElementException;

/** The edges of promises 1 to 14. */
final class EdgesOfCycle {
    private static final Class<IllegalArgumentException> ARGUMENT = IllegalArgumentException.class;
    private static final Class<UnsupportedOperationException> DENIED = UnsupportedOperationException.class;
    private static final Class<IndexOutOfBoundsException> INDEX = IndexOutOfBoundsException.class;
    private static final Class<NoSuchElementException> NONE = NoSuchElementException.class;
    private static final Class<IllegalStateException> STATE = IllegalStateException.class;
    private static final Class<ArithmeticException> ARITHMETIC = ArithmeticException.class;

    private EdgesOfCycle() {
    }

    static void test() {
        Edges.of("1", "Creates an empty churn without phases and pats.", EdgesOfCycle::newObject);
        addPhase();
        removePhase();
        startAndStop();
        run();
        readings();
        minutesLeft();
    }

    private static void addPhase() {
        Edges.of("2", "Adds a phase to the end of the cycle.", EdgesOfCycle::addsAtEnd);
        Edges.of("2", "- `kind`: the kind, 'h', 'c', 't' or 'r'", EdgesOfCycle::kinds);
        Edges.of("2", "- `minutes`: the number of minutes, 1 to 30", EdgesOfCycle::minutesOfPhase);
        Edges.of("2", "- `level`: the level, 1 to 5", EdgesOfCycle::levels);
        Edges.of("2", "Returns the index of the phase.", EdgesOfCycle::indexOfPhase);
        Edges.of("2", "Throws `IllegalArgumentException` if there is no such kind, or a number is out of range",
                EdgesOfCycle::noSuchKindOrNumber);
        Edges.of("2", "Throws `UnsupportedOperationException` if denied: 2, 1 (8 phases)",
                EdgesOfCycle::addPhaseDenied);
    }

    private static void removePhase() {
        Edges.of("3", "Removes a phase. The indices of the later phases decrease by 1.", EdgesOfCycle::removesAny);
        Edges.of("3", "- `phase`: the index of the phase", EdgesOfCycle::removesFirstAndLast);
        Edges.of("3", "Returns the number of phases afterwards.", EdgesOfCycle::removesAll);
        Edges.of("3", "Throws `IndexOutOfBoundsException` if there is no such phase", EdgesOfCycle::removesNone);
        Edges.of("3", "Throws `UnsupportedOperationException` if denied: 2", EdgesOfCycle::removePhaseDenied);
    }

    private static void startAndStop() {
        Edges.of("4", "Returns the number of minutes of all its phases.", EdgesOfCycle::minutesOfAll);
        Edges.of("4", "Throws `UnsupportedOperationException` if denied: 2, 4", EdgesOfCycle::startDenied);
        Edges.of("5", "Stops the cycle, which is not finished by that.", EdgesOfCycle::stopFinishesNot);
        Edges.of("5", "Returns the number of its minutes that have not taken place.", EdgesOfCycle::minutesNotTaken);
        Edges.of("5", "Throws `UnsupportedOperationException` if denied: 3", EdgesOfCycle::stopDenied);
    }

    private static void run() {
        Edges.of("6", "- `minutes`: the number of minutes, 1 to 240", EdgesOfCycle::minutesOfRun);
        Edges.of("6", "Returns the number of minutes in which the cycle was running.", EdgesOfCycle::runningMinutes);
        Edges.of("6", "Throws `IllegalArgumentException` if the number of minutes is out of range",
                EdgesOfCycle::runBeyond);
    }

    private static void readings() {
        Edges.of("7", "Returns the number of phases.", EdgesOfCycle::phaseCount);
        Edges.of("8", "- `phase`: the index of the phase", EdgesOfCycle::phaseKinds);
        Edges.of("8", "Throws `IndexOutOfBoundsException` if there is no such phase", EdgesOfCycle::noPhaseKind);
        Edges.of("9", "- `phase`: the index of the phase", EdgesOfCycle::phaseMinutes);
        Edges.of("9", "Throws `IndexOutOfBoundsException` if there is no such phase", EdgesOfCycle::noPhaseMinutes);
        Edges.of("10", "Returns whether the cycle is running.", EdgesOfCycle::isRunning);
        Edges.of("11", "Returns the index of the phase.", EdgesOfCycle::presentPhase);
        Edges.of("11", "Throws `NoSuchElementException` if the cycle is not running", EdgesOfCycle::noPresentPhase);
    }

    private static void minutesLeft() {
        Edges.of("12", "Returns the number of minutes until the cycle is finished, found minute by minute.",
                EdgesOfCycle::minutesLeftCount);
        Edges.of("12", "Returns the number of minutes, 0 if it is not running.", EdgesOfCycle::noMinutesLeft);
        Edges.of("13", "Returns the same number as minutesLeft, computed from the minutes of the phases.",
                EdgesOfCycle::sameNumber);
        Edges.of("14", "Returns the number of cycles finished so far.", EdgesOfCycle::finishedCycles);
    }

    private static void newObject() {
        StoneChurn x = new StoneChurn();
        Setup.looks(x, 0, 20, 0, 0);
        Due.is(0, x.phaseCount());
        Due.is(0, x.patCount());
        Due.is(false, x.isRunning());
        Due.is(0, x.minutesLeft());
        Due.is(0, x.minutesLeftByPhases());
        Due.is(0, x.finishedCycles());
        Due.is(20, x.peakTemperature());
        Due.is(20, x.temperatureAfter(240));
        Due.is(0, x.smoothnessAfter(240));
        Due.is(0, x.minute());
        Due.is(0, x.loadedMass());
        Due.is(0, x.gradedMass());
        Due.is(0, x.gradedCount('a') + x.gradedCount('b') + x.gradedCount('c') + x.gradedCount('d')
                + x.gradedCount('e'));
        Due.is(0, x.undoCount());
        nothingThere(x);
        Due.is(0, x.writeCycle());
        Due.is(1, x.feed('s'));
        // objects have nothing in common
        x.load(100);
        x.addPhase('h', 1, 1);
        x.saveSnapshot();
        Due.outcome(x::stop);
        StoneChurn y = new StoneChurn();
        Due.is(0, y.mass());
        nothingThere(y);
        Due.is(1, y.feed('s'));
    }

    private static void nothingThere(StoneChurn x) {
        Due.fails(INDEX, () -> x.phaseKind(0));
        Due.fails(INDEX, () -> x.phaseMinutes(0));
        Due.fails(INDEX, () -> x.removePhase(0));
        Due.fails(NONE, () -> x.presentPhase());
        Due.fails(INDEX, () -> x.patMass(0));
        Due.fails(INDEX, () -> x.nextCool(0));
        Due.fails(NONE, () -> x.patByFirmness(0));
        Due.fails(ARITHMETIC, () -> x.meanFirmness());
        Due.fails(ARITHMETIC, () -> x.coolShare());
        Due.fails(NONE, () -> x.faultPosition());
        Due.fails(INDEX, () -> x.lineCharacter(0));
        Due.fails(NONE, () -> x.denial());
        Due.fails(NONE, () -> x.denialDetail());
        Due.fails(NONE, () -> x.denialCause());
        Due.fails(STATE, () -> x.undo());
        Due.fails(STATE, () -> x.restoreSnapshot());
    }

    // ---- addPhase

    private static void addsAtEnd() {
        StoneChurn x = new StoneChurn();
        Setup.cycle(x, "h1:1", "c2:2", "t3:3", "r4:4", "h5:5", "c6:1", "t7:2", "r30:3");
        Due.is("h1:1 c2:2 t3:3 r4:4 h5:5 c6:1 t7:2 r30:3", Due.line(x, x.writeCycle()));
        x.removePhase(7);
        x.removePhase(0);
        Setup.cycle(x, "c9:4", "t1:5");
        Due.is("c2:2 t3:3 r4:4 h5:5 c6:1 t7:2 c9:4 t1:5", Due.line(x, x.writeCycle()));
    }

    private static void kinds() {
        int right = 0;
        for (int block = 0; block < 256; block++) {
            StoneChurn x = new StoneChurn();
            for (int i = 0; i < 256; i++) {
                char kind = (char) (256 * block + i);
                Object answer = Due.outcome(() -> x.addPhase(kind, 30, 5));
                boolean one = kind == 'h' || kind == 'c' || kind == 't' || kind == 'r';
                Due.is(one ? (Object) (x.phaseCount() - 1) : "IllegalArgumentException", answer);
                right += one && x.phaseKind(x.phaseCount() - 1) == kind ? 1 : 0;
            }
        }
        Due.is(4, right);
    }

    private static void minutesOfPhase() {
        for (int minutes = -3; minutes <= 33; minutes++) {
            StoneChurn x = new StoneChurn();
            int one = minutes;
            boolean right = minutes >= 1 && minutes <= 30;
            Due.is(right ? (Object) 0 : "IllegalArgumentException", Due.outcome(() -> x.addPhase('c', one, 1)));
            Due.is(right ? (Object) one : "IndexOutOfBoundsException", Due.outcome(() -> x.phaseMinutes(0)));
            if (right) {
                Due.is(one, x.start());
                Due.is(one, x.run(40));
            }
        }
    }

    private static void levels() {
        for (int level = -2; level <= 8; level++) {
            StoneChurn x = new StoneChurn();
            int one = level;
            boolean right = level >= 1 && level <= 5;
            Due.is(right ? (Object) 0 : "IllegalArgumentException", Due.outcome(() -> x.addPhase('h', 1, one)));
            if (right) {
                x.start();
                x.run(1);
                Due.is(20 + 3 * one, x.temperature());
            }
        }
    }

    private static void indexOfPhase() {
        StoneChurn x = new StoneChurn();
        for (int i = 0; i < 8; i++) {
            Due.is(i, x.addPhase('h', 30, 5));
        }
        x.removePhase(0);
        Due.is(7, x.addPhase('h', 1, 1));
        for (int i = 0; i < 8; i++) {
            x.removePhase(0);
        }
        Due.is(0, x.addPhase('r', 1, 1));
    }

    private static void noSuchKindOrNumber() {
        StoneChurn x = new StoneChurn();
        Setup.cycle(x, "h1:1");
        for (char kind : new char[] {'H', 'C', 'T', 'R', 'g', 'i', 'b', 'd', 's', 'u', 'q', 0, ' ', 'h' + 256,
            'r' + 32768, 65535}) {
            Due.fails(ARGUMENT, () -> x.addPhase(kind, 1, 1));
        }
        for (int minutes : Edges.beyond(1, 30)) {
            Due.fails(ARGUMENT, () -> x.addPhase('h', minutes, 1));
        }
        for (int level : Edges.beyond(1, 5)) {
            Due.fails(ARGUMENT, () -> x.addPhase('h', 1, level));
        }
        // one right number does not make up for the other
        Due.fails(ARGUMENT, () -> x.addPhase('h', 5, 30));
        Due.fails(ARGUMENT, () -> x.addPhase('h', 31, 6));
        Due.fails(ARGUMENT, () -> x.addPhase('x', 0, 0));
        Due.is(1, x.phaseCount());
        Due.is(1, x.undoCount());
        Due.fails(NONE, () -> x.denial());
    }

    private static void addPhaseDenied() {
        StoneChurn x = new StoneChurn();
        Setup.cycle(x, "h1:1", "h1:1", "h1:1", "h1:1", "h1:1", "h1:1", "h1:1");
        x.start();
        Due.denied(x, 2, 0, () -> x.addPhase('h', 1, 1));
        x.stop();
        Due.is(7, x.addPhase('h', 1, 1));
        Due.denied(x, 1, 8, () -> x.addPhase('h', 1, 1));
        Due.is(8, x.phaseCount());
        // denial 2 is checked before denial 1
        x.start();
        x.run(7);
        Due.denied(x, 2, 7, () -> x.addPhase('h', 1, 1));
        x.run(1);
        Due.denied(x, 1, 8, () -> x.addPhase('h', 1, 1));
        x.removePhase(0);
        Due.is(7, x.addPhase('h', 1, 1));
    }

    // ---- removePhase

    private static void removesAny() {
        String[] due = {"c2:2 t3:3 r4:4", "h1:1 t3:3 r4:4", "h1:1 c2:2 r4:4", "h1:1 c2:2 t3:3"};
        for (int i = 0; i < 4; i++) {
            StoneChurn x = new StoneChurn();
            Setup.cycle(x, "h1:1", "c2:2", "t3:3", "r4:4");
            x.removePhase(i);
            Due.is(due[i], Due.line(x, x.writeCycle()));
        }
    }

    private static void removesFirstAndLast() {
        StoneChurn x = new StoneChurn();
        Setup.cycle(x, "h1:1", "h2:1", "h3:1", "h4:1", "h5:1", "h6:1", "h7:1", "h8:1");
        x.removePhase(7);
        Due.is(7, x.phaseMinutes(6));
        x.removePhase(0);
        Due.is(2, x.phaseMinutes(0));
        Due.is(7, x.phaseMinutes(5));
        Due.fails(INDEX, () -> x.phaseMinutes(6));
    }

    private static void removesAll() {
        StoneChurn x = new StoneChurn();
        Setup.cycle(x, "h1:1", "h1:1", "h1:1", "h1:1", "h1:1", "h1:1", "h1:1", "h1:1");
        for (int left = 7; left >= 0; left--) {
            Due.is(left, x.removePhase(left / 2));
            Due.is(left, x.phaseCount());
        }
        Due.fails(INDEX, () -> x.removePhase(0));
        Due.is(0, x.writeCycle());
    }

    private static void removesNone() {
        StoneChurn x = new StoneChurn();
        for (int count = 0; count <= 8; count++) {
            int size = count;
            Due.fails(INDEX, () -> x.removePhase(size));
            Due.fails(INDEX, () -> x.removePhase(-1));
            Due.is(count, x.phaseCount());
            if (count < 8) {
                x.addPhase('h', 1, 1);
            }
        }
        for (int phase : Edges.beyond(0, 7)) {
            Due.fails(INDEX, () -> x.removePhase(phase));
        }
        x.removePhase(3);
        Due.fails(INDEX, () -> x.removePhase(7));
        Due.is(7, x.phaseCount());
        Due.fails(NONE, () -> x.denial());
    }

    private static void removePhaseDenied() {
        StoneChurn x = new StoneChurn();
        Setup.cycle(x, "h1:1", "h1:1");
        x.start();
        Due.denied(x, 2, 0, () -> x.removePhase(1));
        x.run(1);
        Due.denied(x, 2, 1, () -> x.removePhase(0));
        Due.is(2, x.phaseCount());
        x.run(1);
        Due.is(1, x.removePhase(0));
    }

    // ---- start and stop

    private static void minutesOfAll() {
        StoneChurn x = new StoneChurn();
        x.addPhase('h', 1, 1);
        Due.is(1, x.start());
        x.run(1);
        x.removePhase(0);
        for (int i = 1; i <= 8; i++) {
            x.addPhase('c', 30, 1);
            Due.is(30 * i, x.start());
            x.stop();
        }
        x.start();
        x.run(239);
        x.stop();
        Due.is(240, x.start());
    }

    private static void startDenied() {
        StoneChurn x = new StoneChurn();
        Due.denied(x, 4, 0, () -> x.start());
        Due.is(false, x.isRunning());
        Setup.cycle(x, "h1:1", "c1:1");
        x.start();
        Due.denied(x, 2, 0, () -> x.start());
        x.run(1);
        Due.denied(x, 2, 1, () -> x.start());
        Due.is(1, x.presentPhase());
        x.run(1);
        x.removePhase(0);
        x.removePhase(0);
        Due.denied(x, 4, 1, () -> x.start());
        Due.is(false, x.isRunning());
    }

    private static void stopFinishesNot() {
        StoneChurn x = new StoneChurn();
        Setup.cycle(x, "h1:1", "c1:1");
        x.start();
        x.stop();
        Due.is(0, x.finishedCycles());
        x.start();
        x.run(1);
        x.stop();
        Due.is(0, x.finishedCycles());
        Due.is(false, x.isRunning());
        Due.is(23, x.temperature());
        x.start();
        x.run(2);
        Due.is(1, x.finishedCycles());
    }

    private static void minutesNotTaken() {
        int[] before = {0, 1, 2, 3, 4};
        for (int minutes : before) {
            StoneChurn x = new StoneChurn();
            Setup.cycle(x, "h2:1", "c1:1", "r2:1");
            x.start();
            if (minutes > 0) {
                x.run(minutes);
            }
            Due.is(5 - minutes, x.stop());
        }
        StoneChurn y = new StoneChurn();
        for (int i = 0; i < 8; i++) {
            y.addPhase('t', 30, 1);
        }
        y.start();
        Due.is(240, y.stop());
        y.start();
        y.run(239);
        Due.is(1, y.stop());
    }

    private static void stopDenied() {
        StoneChurn x = new StoneChurn();
        Due.denied(x, 3, 0, () -> x.stop());
        Setup.cycle(x, "h1:1");
        Due.denied(x, 3, 0, () -> x.stop());
        x.start();
        x.stop();
        Due.denied(x, 3, 0, () -> x.stop());
        x.start();
        x.run(1);
        Due.denied(x, 3, 1, () -> x.stop());
        x.start();
        x.run(1);
        Due.denied(x, 3, 2, () -> x.stop());
    }

    // ---- run

    private static void minutesOfRun() {
        for (int minutes = -1; minutes <= 242; minutes++) {
            StoneChurn x = new StoneChurn();
            int one = minutes;
            boolean right = minutes >= 1 && minutes <= 240;
            Due.is(right ? (Object) 0 : "IllegalArgumentException", Due.outcome(() -> x.run(one)));
            Due.is(right ? one : 0, x.minute());
        }
    }

    private static void runningMinutes() {
        StoneChurn x = new StoneChurn();
        Due.is(0, x.run(1));
        Due.is(0, x.run(240));
        Setup.cycle(x, "h2:1", "c3:1");
        Due.is(0, x.run(1));
        int[][] cases = {{1, 1}, {4, 4}, {5, 5}, {6, 5}, {240, 5}};
        for (int[] one : cases) {
            x.start();
            Due.is(one[1], x.run(one[0]));
            if (x.isRunning()) {
                x.stop();
            }
            Due.is(0, x.run(1));
        }
        x.start();
        Due.is(3, x.run(3));
        Due.is(2, x.run(3));
        Due.is(0, x.run(3));
        StoneChurn y = new StoneChurn();
        for (int i = 0; i < 8; i++) {
            y.addPhase('t', 30, 1);
        }
        y.start();
        Due.is(240, y.run(240));
        Due.is(false, y.isRunning());
    }

    private static void runBeyond() {
        StoneChurn x = new StoneChurn();
        Setup.cycle(x, "h2:1");
        x.start();
        for (int minutes : Edges.beyond(1, 240)) {
            Due.fails(ARGUMENT, () -> x.run(minutes));
        }
        Due.is(0, x.minute());
        Due.is(2, x.minutesLeft());
        Due.is(2, x.undoCount());
        Due.fails(NONE, () -> x.denial());
    }

    // ---- readings

    private static void phaseCount() {
        StoneChurn x = new StoneChurn();
        Due.is(0, x.phaseCount());
        for (int i = 1; i <= 8; i++) {
            x.addPhase('h', 1, 1);
            Due.is(i, x.phaseCount());
        }
        Due.fails(DENIED, () -> x.addPhase('h', 1, 1));
        Due.is(8, x.phaseCount());
    }

    private static void phaseKinds() {
        StoneChurn x = new StoneChurn();
        Setup.cycle(x, "h1:1", "c1:1", "t1:1", "r1:1", "c1:1", "h1:1", "r1:1", "t1:1");
        for (int i = 0; i < 8; i++) {
            Due.is("hctrchrt".charAt(i), x.phaseKind(i));
        }
        x.start();
        Due.is('h', x.phaseKind(0));
    }

    private static void noPhaseKind() {
        StoneChurn x = new StoneChurn();
        for (int count = 0; count <= 8; count++) {
            int size = count;
            Due.fails(INDEX, () -> x.phaseKind(size));
            Due.fails(INDEX, () -> x.phaseKind(-1));
            if (count < 8) {
                x.addPhase('h', 1, 1);
                Due.is('h', x.phaseKind(count));
            }
        }
        for (int phase : Edges.beyond(0, 7)) {
            Due.fails(INDEX, () -> x.phaseKind(phase));
        }
        x.removePhase(0);
        Due.fails(INDEX, () -> x.phaseKind(7));
    }

    private static void phaseMinutes() {
        StoneChurn x = new StoneChurn();
        Setup.cycle(x, "h1:1", "c30:1", "t2:1", "r29:1", "c3:1", "h28:1", "r4:1", "t30:1");
        int[] due = {1, 30, 2, 29, 3, 28, 4, 30};
        for (int i = 0; i < 8; i++) {
            Due.is(due[i], x.phaseMinutes(i));
        }
        x.start();
        x.run(20);
        Due.is(1, x.phaseMinutes(0));
        Due.is(30, x.phaseMinutes(1));
    }

    private static void noPhaseMinutes() {
        StoneChurn x = new StoneChurn();
        for (int count = 0; count <= 8; count++) {
            int size = count;
            Due.fails(INDEX, () -> x.phaseMinutes(size));
            Due.fails(INDEX, () -> x.phaseMinutes(-1));
            if (count < 8) {
                x.addPhase('h', 30, 1);
                Due.is(30, x.phaseMinutes(count));
            }
        }
        for (int phase : Edges.beyond(0, 7)) {
            Due.fails(INDEX, () -> x.phaseMinutes(phase));
        }
        x.removePhase(0);
        Due.fails(INDEX, () -> x.phaseMinutes(7));
    }

    private static void isRunning() {
        StoneChurn x = new StoneChurn();
        Due.is(false, x.isRunning());
        Due.fails(DENIED, () -> x.start());
        Due.is(false, x.isRunning());
        Setup.cycle(x, "h1:1", "c1:1");
        Due.is(false, x.isRunning());
        x.start();
        Due.is(true, x.isRunning());
        x.run(1);
        Due.is(true, x.isRunning());
        x.run(1);
        Due.is(false, x.isRunning());
        x.start();
        x.stop();
        Due.is(false, x.isRunning());
        x.undo();
        Due.is(true, x.isRunning());
        x.undo();
        Due.is(false, x.isRunning());
    }

    private static void presentPhase() {
        StoneChurn x = new StoneChurn();
        for (int i = 0; i < 8; i++) {
            x.addPhase('h', 2, 1);
        }
        x.start();
        for (int minute = 0; minute < 16; minute++) {
            Due.is(minute / 2, x.presentPhase());
            x.run(1);
        }
        Due.fails(NONE, () -> x.presentPhase());
    }

    private static void noPresentPhase() {
        StoneChurn x = new StoneChurn();
        Due.fails(NONE, () -> x.presentPhase());
        Setup.cycle(x, "h1:1", "c1:1");
        Due.fails(NONE, () -> x.presentPhase());
        x.start();
        Due.is(0, x.presentPhase());
        x.stop();
        Due.fails(NONE, () -> x.presentPhase());
        x.start();
        x.run(2);
        Due.fails(NONE, () -> x.presentPhase());
        x.undo();
        Due.is(0, x.presentPhase());
        x.undo();
        Due.fails(NONE, () -> x.presentPhase());
    }

    // ---- minutes left

    private static void minutesLeftCount() {
        StoneChurn x = new StoneChurn();
        for (int i = 0; i < 8; i++) {
            x.addPhase('h', 30, 5);
        }
        x.start();
        Due.is(240, x.minutesLeft());
        x.run(1);
        Due.is(239, x.minutesLeft());
        x.run(29);
        Due.is(210, x.minutesLeft());
        x.run(209);
        Due.is(1, x.minutesLeft());
        // looking ahead lets no minute pass
        Due.is(1, x.minutesLeft());
        Due.is(239, x.minute());
        Due.is(true, x.isRunning());
    }

    private static void noMinutesLeft() {
        StoneChurn x = new StoneChurn();
        Due.is(0, x.minutesLeft());
        Setup.cycle(x, "h1:1", "c1:1");
        Due.is(0, x.minutesLeft());
        x.start();
        x.stop();
        Due.is(0, x.minutesLeft());
        x.start();
        x.run(1);
        Due.is(1, x.minutesLeft());
        x.run(1);
        Due.is(0, x.minutesLeft());
    }

    private static void sameNumber() {
        StoneChurn x = new StoneChurn();
        Due.is(0, x.minutesLeftByPhases());
        Setup.cycle(x, "h30:1", "c1:1", "t29:2", "r30:3");
        Due.is(0, x.minutesLeftByPhases());
        x.start();
        for (int left = 90; left >= 0; left--) {
            Due.is(left, x.minutesLeftByPhases());
            Due.is(left, x.minutesLeft());
            x.run(1);
        }
        x.start();
        x.run(45);
        x.stop();
        Due.is(0, x.minutesLeftByPhases());
        StoneChurn y = new StoneChurn();
        for (int i = 0; i < 8; i++) {
            y.addPhase('h', 30, 5);
        }
        y.start();
        Due.is(240, y.minutesLeftByPhases());
    }

    private static void finishedCycles() {
        StoneChurn x = new StoneChurn();
        Due.is(0, x.finishedCycles());
        Setup.cycle(x, "h1:1");
        x.run(1);
        Due.is(0, x.finishedCycles());
        for (int i = 1; i <= 10; i++) {
            x.start();
            Due.is(i - 1, x.finishedCycles());
            x.run(i);
            Due.is(i, x.finishedCycles());
            x.start();
            x.stop();
            Due.is(i, x.finishedCycles());
        }
    }
}
