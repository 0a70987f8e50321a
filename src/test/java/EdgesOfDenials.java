import java.util.NoSuchElementException;

/** The edges of promises 48 to 50, and of 'Denials' and 'Exceptions' under 'Terms'. */
final class EdgesOfDenials {
    private static final Class<IllegalArgumentException> ARGUMENT = IllegalArgumentException.class;
    private static final Class<UnsupportedOperationException> DENIED = UnsupportedOperationException.class;
    private static final Class<IndexOutOfBoundsException> INDEX = IndexOutOfBoundsException.class;
    private static final Class<IllegalStateException> STATE = IllegalStateException.class;
    private static final Class<ArithmeticException> ARITHMETIC = ArithmeticException.class;
    private static final Class<NoSuchElementException> NONE = NoSuchElementException.class;

    /** A call on a churn. */
    private interface Refused {
        Object answer(StoneChurn x);
    }

    private EdgesOfDenials() {
    }

    static void test() {
        numbers();
        Edges.of("Terms", "Only denial 7 has a cause: the denial of the failed command with its detail",
                EdgesOfDenials::causes);
        Edges.of("Terms", "or denial 8 with detail 0 if the command failed with an exception other than"
                + " UnsupportedOperationException.", EdgesOfDenials::otherExceptions);
        Edges.of("Terms", "The number, the detail and the cause of the latest denial are kept until the next denial.",
                EdgesOfDenials::kept);
        Edges.of("Terms", "A method that throws an exception does not change the state, unless its documentation says"
                + " otherwise.", EdgesOfDenials::nothingChanges);
        Edges.of("Terms", "If the conditions of several exceptions hold, the one that is documented first is thrown.",
                EdgesOfDenials::firstException);
        readings();
    }

    private static void numbers() {
        Edges.of("Terms", "Each method lists its possible denials in the order in which they are checked.",
                EdgesOfDenials::order);
        Edges.of("Terms", "Denial 1: a limit is reached; the detail is the limit.", EdgesOfDenials::denial1);
        Edges.of("Terms", "Denial 2: the cycle is running; the detail is the index of its present phase.",
                EdgesOfDenials::denial2);
        Edges.of("Terms", "Denial 3: the cycle is not running; the detail is the number of finished cycles.",
                EdgesOfDenials::denial3);
        Edges.of("Terms", "Denial 4: the cycle has no phases; the detail is the number of finished cycles.",
                EdgesOfDenials::denial4);
        Edges.of("Terms", "Denial 5: the churn contains too little; the detail is its mass.", EdgesOfDenials::denial5);
        Edges.of("Terms", "Denial 6: the pat is not cool; the detail is its temperature.", EdgesOfDenials::denial6);
        Edges.of("Terms", "Denial 7: a command of a text failed; the detail is the index of the command, from 0.",
                EdgesOfDenials::denial7);
    }

    private static void readings() {
        Edges.of("48", "Returns the number, 1 to 7.", EdgesOfDenials::oneToSeven);
        Edges.of("48", "Throws `NoSuchElementException` if nothing was denied yet",
                () -> nothingDenied(x -> x.denial(), 3));
        Edges.of("49", "Returns the detail of the latest denial.", EdgesOfDenials::latestDetail);
        Edges.of("49", "Throws `NoSuchElementException` if nothing was denied yet",
                () -> nothingDenied(x -> x.denialDetail(), 0));
        Edges.of("50", "Returns the number, 1 to 6 or 8.", EdgesOfDenials::oneToSixOrEight);
        Edges.of("50", "Throws `NoSuchElementException` if nothing was denied yet, or the latest denial has no cause",
                EdgesOfDenials::noCause);
    }

    /** A churn with so many finished cycles, and so many phases of one minute. */
    private static StoneChurn finished(int cycles, int phases) {
        StoneChurn x = new StoneChurn();
        x.addPhase('t', 1, 1);
        for (int i = 0; i < cycles; i++) {
            x.start();
            x.run(1);
        }
        x.removePhase(0);
        for (int i = 0; i < phases; i++) {
            x.addPhase('t', 1, 1);
        }
        return x;
    }

    // ---- the denials

    private static void order() {
        // addPhase: 2, 1
        StoneChurn x = finished(3, 8);
        x.start();
        x.run(5);
        Due.denied(x, 2, 5, () -> x.addPhase('h', 1, 1));
        x.stop();
        Due.denied(x, 1, 8, () -> x.addPhase('h', 1, 1));
        // press: 5, 1
        StoneChurn y = new StoneChurn();
        y.load(13);
        for (int i = 0; i < 12; i++) {
            y.press(1);
        }
        Due.denied(y, 5, 1, () -> y.press(2));
        Due.denied(y, 1, 12, () -> y.press(1));
        y.crush(0);
        Due.denied(y, 5, 2, () -> y.press(3));
        // start: 2, 4; the two never hold at once, since no phase is removed while the cycle is running
        StoneChurn z = finished(3, 1);
        z.start();
        Due.denied(z, 2, 0, () -> z.start());
        z.stop();
        z.removePhase(0);
        Due.denied(z, 4, 3, () -> z.start());
    }

    private static void denial1() {
        StoneChurn x = finished(3, 8);
        Due.denied(x, 1, 8, () -> x.addPhase('h', 1, 1));
        x.load(15);
        Due.denied(x, 1, 100, () -> x.load(86));
        for (int i = 0; i < 12; i++) {
            x.press(1);
        }
        Due.denied(x, 1, 12, () -> x.press(1));
        x.load(97);
        Due.denied(x, 1, 100, () -> x.crush(0));
        Due.denied(x, 1, 100, () -> x.load(1));
    }

    private static void denial2() {
        StoneChurn x = finished(3, 8);
        x.start();
        for (int phase = 0; phase < 8; phase++) {
            Due.denied(x, 2, phase, () -> x.start());
            Due.denied(x, 2, phase, () -> x.addPhase('h', 1, 1));
            Due.denied(x, 2, phase, () -> x.removePhase(7));
            x.run(1);
        }
        Due.is(8, x.start());
    }

    private static void denial3() {
        for (int cycles = 0; cycles < 12; cycles++) {
            StoneChurn x = finished(cycles, 2);
            Due.denied(x, 3, cycles, () -> x.stop());
        }
    }

    private static void denial4() {
        for (int cycles = 0; cycles < 12; cycles++) {
            StoneChurn x = finished(cycles, 0);
            Due.denied(x, 4, cycles, () -> x.start());
        }
    }

    private static void denial5() {
        for (int mass = 0; mass < 20; mass++) {
            StoneChurn x = Setup.churn(mass, 20, 0, 0);
            int more = mass + 1;
            Due.denied(x, 5, mass, () -> x.press(more));
            Due.denied(x, 5, mass, () -> x.press(20));
            if (mass > 0) {
                Due.is(0, x.press(mass));
            }
        }
    }

    private static void denial6() {
        for (int degrees = 200; degrees > 30; degrees -= 13) {
            StoneChurn x = Setup.churn(10, degrees, 0, 0);
            x.press(1);
            Due.denied(x, 6, degrees, () -> x.gradePat(0));
            x.run(1);
            if (degrees > 35) {
                Due.denied(x, 6, degrees - 5, () -> x.gradePat(0));
            }
        }
    }

    private static void denial7() {
        for (int i = 0; i < 9; i++) {
            StoneChurn x = new StoneChurn();
            Due.failed(x, i, 3, "run 1;".repeat(i) + "stop");
            Due.failed(x, i, 3, "run 1;".repeat(i) + "stop;cut 0");
            Due.is(0, x.minute());
        }
        StoneChurn y = new StoneChurn();
        Due.failed(y, 9, 8, "run 1;".repeat(9) + "run 0");
        y.addPhase('h', 1, 1);
        Due.failed(y, 10, 3, "start;stop;".repeat(5) + "stop");
    }

    private static void causes() {
        StoneChurn x = finished(3, 1);
        x.load(10);
        Due.failed(x, 0, 1, "load 99");
        Due.failed(x, 1, 2, "start;start");
        Due.failed(x, 0, 3, "stop");
        Due.failed(x, 1, 4, "cut 0;start");
        Due.failed(x, 0, 5, "press 11");
        Due.failed(x, 4, 6, "phase h 9 1;start;run 9;press 1;grade 0");
        // a cause is gone with the next denial
        Due.denied(x, 5, 10, () -> x.press(11));
        // the denial of a command leaves nothing else than denial 7
        Due.failed(x, 1, 5, "run 1;press 11");
        Due.failed(x, 1, 8, "run 1;press 21");
        Due.denied(x, 3, 3, () -> x.stop());
    }

    private static void otherExceptions() {
        String[] commands = {"phase h 0 1", "phase h 31 1", "phase h 999 1", "phase h 1 0", "phase h 1 6",
            "phase h 1 9", "cut 1", "cut 8", "cut 9", "load 0", "load 000", "load 101", "load 999", "run 0", "run 241",
            "run 999", "press 0", "press 21", "press 999", "grade 1", "grade 12", "grade 999", "crush 1", "crush 12",
            "crush 999"};
        for (String command : commands) {
            StoneChurn x = onePatOnePhase();
            Due.failed(x, 0, 8, command);
            Due.failed(x, 2, 8, "run 1;load 1;" + command + ";run 1");
            Due.is(20, x.loadedMass());
            Due.is(3, x.undoCount());
        }
        // such an exception comes before a denial of the same command: it is documented first
        StoneChurn y = onePatOnePhase();
        Due.failed(y, 1, 8, "start;phase h 0 1");
        Due.failed(y, 1, 8, "start;cut 9");
        Due.failed(y, 1, 8, "load 81;load 0");
    }

    private static StoneChurn onePatOnePhase() {
        StoneChurn x = new StoneChurn();
        x.addPhase('h', 1, 1);
        x.load(20);
        x.press(1);
        return x;
    }

    private static void kept() {
        StoneChurn x = new StoneChurn();
        x.load(5);
        x.saveSnapshot();
        Due.failed(x, 1, 5, "press 2;press 4");
        Due.Call[] between = {() -> x.press(1), () -> x.press(0), () -> x.gradePat(9), () -> x.run(0), () -> x.run(1),
            () -> x.execute(), () -> x.feed('q'), () -> x.execute(), () -> x.gradePat(0), () -> x.undo(),
            () -> x.undo(), () -> x.restoreSnapshot(), () -> x.undo(), () -> x.patByFirmness(99),
            () -> x.presentPhase(), () -> x.meanFirmness(), () -> x.lineCharacter(0), () -> Due.execute(x, "run 1")};
        for (Due.Call call : between) {
            Due.outcome(call);
            Due.is("7 1 5", Sight.denial(x));
        }
        Due.denied(x, 5, 5, () -> x.press(6));
        x.press(5);
        x.run(1);
        Due.is("5 5 NoSuchElementException", Sight.denial(x));
        // the state at the time of the denial counts, not the present one
        StoneChurn y = finished(2, 1);
        Due.denied(y, 3, 2, () -> y.stop());
        y.start();
        y.run(1);
        Due.is(3, y.denial());
        Due.is(2, y.denialDetail());
    }

    // ---- exceptions

    /** Running or not, with phases, a cool pat and a hot one, a line, a fault, a denial and a part of a text. */
    private static StoneChurn rich(boolean running) {
        StoneChurn x = new StoneChurn();
        x.load(90);
        Setup.cycle(x, "h9:5", "t9:4", "r3:3");
        x.press(10);
        x.saveSnapshot();
        x.start();
        x.run(12);
        x.press(20);
        Due.fails(ARGUMENT, () -> Due.execute(x, "run 1;x"));
        Due.failed(x, 1, 2, "run 2;start");
        x.writePat(1);
        if (!running) {
            x.stop();
        }
        Due.feed(x, "run 7");
        return x;
    }

    /** The refused call is made on one of two churns of the same past: both look the same afterwards. */
    private static void changesNothing(Class<? extends RuntimeException> exception, boolean running, Refused call) {
        StoneChurn x = rich(running);
        StoneChurn y = rich(running);
        Due.fails(exception, () -> call.answer(y));
        if (!exception.equals(DENIED)) {
            Due.is(Sight.denial(x), Sight.denial(y));
        }
        Due.is(Sight.whole(x), Sight.whole(y));
    }

    private static void nothingChanges() {
        for (boolean running : new boolean[] {false, true}) {
            wrongArguments(running);
            wrongIndices(running);
        }
        changesNothing(DENIED, true, x -> x.addPhase('h', 1, 1));
        changesNothing(DENIED, true, x -> x.removePhase(0));
        changesNothing(DENIED, true, x -> x.start());
        changesNothing(DENIED, false, x -> x.stop());
        changesNothing(DENIED, true, x -> x.load(41));
        changesNothing(DENIED, true, x -> x.gradePat(1));
        changesNothing(NONE, false, x -> x.presentPhase());
        changesNothing(NONE, true, x -> x.nextCool(1));
        refusedByEmptyOnes();
        refusedByFullOnes();
        executeSaysOtherwise();
    }

    private static void wrongArguments(boolean running) {
        changesNothing(ARGUMENT, running, x -> x.addPhase('x', 1, 1));
        changesNothing(ARGUMENT, running, x -> x.addPhase('h', 31, 1));
        changesNothing(ARGUMENT, running, x -> x.addPhase('h', 1, 0));
        changesNothing(ARGUMENT, running, x -> x.run(0));
        changesNothing(ARGUMENT, running, x -> x.run(241));
        changesNothing(ARGUMENT, running, x -> x.load(0));
        changesNothing(ARGUMENT, running, x -> x.load(101));
        changesNothing(ARGUMENT, running, x -> x.temperatureAfter(-1));
        changesNothing(ARGUMENT, running, x -> x.temperatureAfter(241));
        changesNothing(ARGUMENT, running, x -> x.smoothnessAfter(-1));
        changesNothing(ARGUMENT, running, x -> x.smoothnessAfter(241));
        changesNothing(ARGUMENT, running, x -> x.press(0));
        changesNothing(ARGUMENT, running, x -> x.press(21));
        changesNothing(ARGUMENT, running, x -> x.gradedCount('f'));
        changesNothing(NONE, running, x -> x.patByFirmness(2));
        changesNothing(NONE, running, x -> x.patByFirmness(-1));
    }

    private static void wrongIndices(boolean running) {
        for (int index : new int[] {-1, 3, Integer.MIN_VALUE, Integer.MAX_VALUE}) {
            changesNothing(INDEX, running, x -> x.removePhase(index));
            changesNothing(INDEX, running, x -> x.phaseKind(index));
            changesNothing(INDEX, running, x -> x.phaseMinutes(index));
            changesNothing(INDEX, running, x -> x.gradePat(index));
            changesNothing(INDEX, running, x -> x.crush(index));
            changesNothing(INDEX, running, x -> x.patMass(index));
            changesNothing(INDEX, running, x -> x.patTemperature(index));
            changesNothing(INDEX, running, x -> x.cracks(index));
            changesNothing(INDEX, running, x -> x.firmness(index));
            changesNothing(INDEX, running, x -> x.isCool(index));
            changesNothing(INDEX, running, x -> x.minutesUntilCool(index));
            changesNothing(INDEX, running, x -> x.minutesUntilCoolByDivision(index));
            changesNothing(INDEX, running, x -> x.nextCool(index));
            changesNothing(INDEX, running, x -> x.writePat(index));
        }
        changesNothing(INDEX, running, x -> x.lineCharacter(-1));
        changesNothing(INDEX, running, x -> x.lineCharacter(50));
    }

    private static void refusedByEmptyOnes() {
        Refused[] calls = {x -> x.start(), x -> x.stop(), x -> x.press(1), x -> x.meanFirmness(), x -> x.coolShare(),
            x -> x.faultPosition(), x -> x.denial(), x -> x.denialDetail(), x -> x.denialCause(), x -> x.undo(),
            x -> x.restoreSnapshot(), x -> x.patByFirmness(0), x -> x.presentPhase(), x -> x.lineCharacter(0)};
        for (Refused call : calls) {
            StoneChurn x = new StoneChurn();
            Due.is(true, Due.outcome(() -> call.answer(x)).toString().endsWith("Exception"));
            Due.is(Sight.whole(new StoneChurn()), Sight.whole(x));
        }
    }

    private static void refusedByFullOnes() {
        Refused[] calls = {x -> x.addPhase('r', 1, 1), x -> x.press(1), x -> x.load(1), x -> x.crush(0),
            x -> x.gradePat(0)};
        for (Refused call : calls) {
            StoneChurn x = fullOne();
            Due.fails(DENIED, () -> call.answer(x));
            Due.is(Sight.state(fullOne()), Sight.state(x));
            Due.is(8, x.undoCount());
        }
        StoneChurn x = new StoneChurn();
        Due.feed(x, "run 240;run 240;run 240;run 240;run 240;run 240;run 24;run 9");
        Due.fails(STATE, () -> x.feed('9'));
        Due.is(8, x.execute());
        Due.is(6 * 240 + 24 + 9, x.minute());
    }

    private static StoneChurn fullOne() {
        StoneChurn x = Setup.churn(50, 200, 0, 0);
        for (int i = 0; i < 12; i++) {
            x.press(2);
        }
        x.load(74);
        for (int i = 0; i < 8; i++) {
            x.addPhase('t', 2, 2);
        }
        return x;
    }

    private static void executeSaysOtherwise() {
        for (String text : new String[] {"run 1;", "run 1;stop;x", "run 1;load 0", "load 1;load 99"}) {
            StoneChurn x = rich(true);
            StoneChurn y = rich(true);
            x.execute();
            y.execute();
            Due.is(true, Due.outcome(() -> Due.execute(y, text)).toString().endsWith("Exception"));
            // the buffer is empty, and a fault or a denial is kept; all the rest is as it was
            Due.is(Sight.line(x), Sight.line(y));
            Due.is(Sight.state(x), Sight.state(y));
            Due.is(x.undoCount(), y.undoCount());
            Due.is(x.undo(), y.undo());
            Due.is(Sight.state(x), Sight.state(y));
            Due.is(x.restoreSnapshot(), y.restoreSnapshot());
            Due.is(Sight.state(x), Sight.state(y));
            Due.is(1, y.feed(' '));
        }
    }

    private static void firstException() {
        // wrong arguments come before denials
        StoneChurn x = fullOne();
        x.start();
        Due.fails(ARGUMENT, () -> x.addPhase('x', 1, 1));
        Due.fails(ARGUMENT, () -> x.addPhase('h', 0, 1));
        Due.fails(ARGUMENT, () -> x.addPhase('h', 1, 6));
        Due.fails(INDEX, () -> x.removePhase(8));
        Due.fails(INDEX, () -> x.removePhase(-1));
        Due.fails(ARGUMENT, () -> x.load(0));
        Due.fails(ARGUMENT, () -> x.load(101));
        Due.fails(ARGUMENT, () -> x.press(0));
        Due.fails(ARGUMENT, () -> x.press(21));
        Due.fails(INDEX, () -> x.gradePat(12));
        Due.fails(INDEX, () -> x.crush(12));
        Due.fails(ARGUMENT, () -> new StoneChurn().press(21));
        // no such pat comes before none that is cool
        Due.fails(INDEX, () -> x.nextCool(12));
        Due.fails(INDEX, () -> x.nextCool(-1));
        Due.fails(NONE, () -> x.nextCool(0));
        Due.fails(INDEX, () -> new StoneChurn().nextCool(0));
        // a text that does not match comes before a command that fails
        Due.fails(ARGUMENT, () -> Due.execute(x, "start;"));
        Due.fails(ARGUMENT, () -> Due.execute(x, "load 0;x"));
        Due.fails(NONE, () -> x.denial());
    }

    // ---- readings

    private static void oneToSeven() {
        StoneChurn x = finished(3, 1);
        x.load(10);
        Due.Call[] calls = {() -> x.load(91), () -> x.start(), () -> x.stop(), () -> x.start(), () -> x.press(11),
            () -> x.gradePat(0), () -> Due.execute(x, "stop")};
        for (int number = 1; number <= 7; number++) {
            if (number == 2) {
                x.start();
            } else if (number == 3) {
                x.stop();
            } else if (number == 4) {
                x.removePhase(0);
            } else if (number == 6) {
                Setup.phase(x, 'h', 9, 5);
                x.press(1);
            }
            Due.fails(DENIED, calls[number - 1]);
            Due.is(number, x.denial());
        }
    }

    private static void nothingDenied(Refused reading, int due) {
        StoneChurn x = new StoneChurn();
        Due.fails(NONE, () -> reading.answer(x));
        // what throws another exception is no denial
        Refused[] calls = {y -> y.addPhase('x', 1, 1), y -> y.removePhase(0), y -> y.run(0), y -> y.load(0),
            y -> y.press(0), y -> y.gradePat(0), y -> y.crush(0), y -> y.execute(), y -> y.undo(),
            y -> y.restoreSnapshot(), y -> y.meanFirmness(), y -> y.presentPhase(), y -> y.load(5), y -> y.press(5)};
        for (Refused call : calls) {
            Due.outcome(() -> call.answer(x));
            Due.fails(NONE, () -> reading.answer(x));
        }
        Due.fails(DENIED, () -> x.stop());
        Due.is(due, reading.answer(x));
        Due.fails(NONE, () -> reading.answer(new StoneChurn()));
    }

    private static void latestDetail() {
        StoneChurn x = finished(11, 8);
        Due.denied(x, 3, 11, () -> x.stop());
        Due.denied(x, 1, 8, () -> x.addPhase('h', 1, 1));
        x.start();
        x.run(7);
        Due.denied(x, 2, 7, () -> x.start());
        Due.failed(x, 2, 2, "run 1;start;start;start");
        Due.denied(x, 5, 0, () -> x.press(1));
        Due.failed(x, 0, 5, "press 1");
    }

    private static void oneToSixOrEight() {
        StoneChurn x = finished(3, 1);
        x.load(10);
        Setup.cycle(x, "h9:5");
        String[] texts = {"load 91", "start;start", "stop", "cut 0;cut 0;start", "press 11",
            "start;run 10;press 1;grade 0", "", "grade 0"};
        int[] commands = {0, 1, 0, 2, 0, 3, 0, 0};
        for (int cause = 1; cause <= 8; cause++) {
            if (cause != 7) {
                Due.failed(x, commands[cause - 1], cause, texts[cause - 1]);
            }
        }
    }

    private static void noCause() {
        StoneChurn x = new StoneChurn();
        Due.fails(NONE, () -> x.denialCause());
        Due.denied(x, 4, 0, () -> x.start());
        Due.failed(x, 0, 4, "start");
        Due.denied(x, 3, 0, () -> x.stop());
        Due.failed(x, 0, 8, "cut 0");
        Due.denied(x, 5, 0, () -> x.press(1));
        x.load(100);
        Due.denied(x, 1, 100, () -> x.load(1));
        Setup.phase(x, 'h', 9, 5);
        x.press(1);
        Due.denied(x, 6, 155, () -> x.gradePat(0));
        Setup.cycle(x, "h9:5");
        x.start();
        Due.denied(x, 2, 0, () -> x.start());
        Due.fails(ARITHMETIC, () -> new StoneChurn().coolShare());
        Due.fails(NONE, () -> x.denialCause());
    }
}
