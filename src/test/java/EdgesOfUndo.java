import java.util.NoSuchElementException;

/** The edges of promises 51 to 54, and of 'Undo' under 'Terms'. */
final class EdgesOfUndo {
    private static final Class<IllegalArgumentException> ARGUMENT = IllegalArgumentException.class;
    private static final Class<UnsupportedOperationException> DENIED = UnsupportedOperationException.class;
    private static final Class<IndexOutOfBoundsException> INDEX = IndexOutOfBoundsException.class;
    private static final Class<IllegalStateException> STATE = IllegalStateException.class;
    private static final Class<NoSuchElementException> NONE = NoSuchElementException.class;

    private EdgesOfUndo() {
    }

    static void test() {
        Edges.of("Terms", "The calls of the methods to which commands correspond, and of execute, that do not throw an"
                + " exception are the changes.", EdgesOfUndo::changes);
        Edges.of("Terms", "The latest 8 changes can be undone; older ones are forgotten.", EdgesOfUndo::latestEight);
        Edges.of("Terms", "The text buffer, the fault position, the output line and the latest denial are affected"
                + " neither by undo nor by snapshots.", EdgesOfUndo::unaffected);
        Edges.of("51", "Undoes the latest change that can be undone.", EdgesOfUndo::undoesLatest);
        Edges.of("51", "Returns the number of changes that can be undone afterwards.", EdgesOfUndo::countAfterwards);
        Edges.of("51", "Throws `IllegalStateException` if there is none", EdgesOfUndo::nothingToUndo);
        Edges.of("52", "Returns the number of changes that can be undone.", EdgesOfUndo::undoCount);
        Edges.of("53", "Saves a snapshot of everything that changes can change; it replaces an earlier snapshot.",
                EdgesOfUndo::replacesSnapshot);
        Edges.of("53", "Returns the number of pats.", EdgesOfUndo::patsSaved);
        Edges.of("54", "Restores the snapshot, which is kept.", EdgesOfUndo::keepsSnapshot);
        Edges.of("54", "No change can be undone afterwards.", EdgesOfUndo::nothingUndoneAfterwards);
        Edges.of("54", "Returns the number of pats afterwards.", EdgesOfUndo::patsRestored);
        Edges.of("54", "Throws `IllegalStateException` if there is no snapshot", EdgesOfUndo::noSnapshot);
    }

    // ---- changes

    private static void changeCounts(StoneChurn x, int due, Due.Call call) {
        int before = x.undoCount();
        String state = Sight.state(x);
        Due.is(false, Due.outcome(call) instanceof String);
        Due.is(before + due, x.undoCount());
        if (due == 1) {
            Due.is(before, x.undo());
        }
        Due.is(state, Sight.state(x));
    }

    private static void changes() {
        StoneChurn x = new StoneChurn();
        changeCounts(x, 1, () -> x.load(30));
        changeCounts(x, 1, () -> x.addPhase('h', 30, 5));
        x.load(30);
        x.addPhase('h', 30, 5);
        changeCounts(x, 1, () -> x.removePhase(0));
        changeCounts(x, 1, () -> x.start());
        changeCounts(x, 1, () -> x.run(1));
        changeCounts(x, 1, () -> x.press(1));
        x.press(1);
        changeCounts(x, 1, () -> x.gradePat(0));
        changeCounts(x, 1, () -> x.crush(0));
        x.start();
        changeCounts(x, 1, () -> x.stop());
        changeCounts(x, 1, () -> Due.execute(x, "run 3;press 2;stop;cut 0"));
        noChanges();
        refusedCallsAreNone();
    }

    private static void noChanges() {
        StoneChurn x = new StoneChurn();
        x.load(30);
        x.press(1);
        changeCounts(x, 0, () -> x.feed('s'));
        changeCounts(x, 0, () -> x.writeCycle());
        changeCounts(x, 0, () -> x.writePat(0));
        changeCounts(x, 0, () -> x.saveSnapshot());
        changeCounts(x, 0, () -> x.minutesLeft());
        changeCounts(x, 0, () -> x.peakTemperature());
        changeCounts(x, 0, () -> x.temperatureAfter(240));
        changeCounts(x, 0, () -> x.smoothnessAfter(240));
        changeCounts(x, 0, () -> x.minutesUntilCool(0));
        changeCounts(x, 0, () -> x.patByFirmness(0));
    }

    private static void refusedCallsAreNone() {
        StoneChurn x = new StoneChurn();
        x.load(30);
        x.press(1);
        Due.fails(ARGUMENT, () -> x.addPhase('x', 1, 1));
        Due.fails(INDEX, () -> x.removePhase(0));
        Due.fails(ARGUMENT, () -> x.load(0));
        Due.fails(DENIED, () -> x.load(100));
        Due.fails(DENIED, () -> x.start());
        Due.fails(DENIED, () -> x.stop());
        Due.fails(ARGUMENT, () -> x.run(0));
        Due.fails(ARGUMENT, () -> x.press(0));
        Due.fails(INDEX, () -> x.gradePat(1));
        Due.fails(INDEX, () -> x.crush(1));
        Due.fails(ARGUMENT, () -> Due.execute(x, "run 1;"));
        Due.fails(DENIED, () -> Due.execute(x, "run 1;stop"));
        Due.is(2, x.undoCount());
        Due.is(1, x.undo());
        Due.is(0, x.patCount());
        Due.is(30, x.mass());
    }

    private static void latestEight() {
        for (int changes = 1; changes <= 26; changes++) {
            StoneChurn x = new StoneChurn();
            for (int i = 0; i < changes; i++) {
                x.load(1);
            }
            for (int i = 1; i <= Math.min(8, changes); i++) {
                Due.is(Math.min(8, changes) - i, x.undo());
                Due.is(changes - i, x.mass());
            }
            Due.fails(STATE, () -> x.undo());
            Due.is(Math.max(0, changes - 8), x.mass());
        }
        // what was forgotten does not come back when some of the latest are undone, or others follow
        StoneChurn y = new StoneChurn();
        for (int i = 0; i < 20; i++) {
            y.load(1);
        }
        for (int i = 0; i < 5; i++) {
            y.undo();
        }
        y.load(50);
        y.load(10);
        Due.is(5, y.undoCount());
        int[] due = {65, 15, 14, 13, 12};
        for (int mass : due) {
            y.undo();
            Due.is(mass, y.mass());
        }
        Due.fails(STATE, () -> y.undo());
        Due.is(12, y.mass());
        // a text is one change, however many commands it has
        StoneChurn z = new StoneChurn();
        for (int i = 0; i < 9; i++) {
            Due.execute(z, "load 1;load 2;load 3;run 1");
        }
        Due.is(8, z.undoCount());
        for (int i = 8; i >= 1; i--) {
            z.undo();
            Due.is(6 * i, z.mass());
            Due.is(i, z.minute());
        }
        Due.fails(STATE, () -> z.undo());
    }

    private static void unaffected() {
        for (boolean bySnapshot : new boolean[] {false, true}) {
            StoneChurn x = new StoneChurn();
            x.load(9);
            x.press(1);
            x.saveSnapshot();
            x.addPhase('h', 1, 1);
            x.writeCycle();
            Due.fails(ARGUMENT, () -> Due.execute(x, "run 1;q"));
            Due.failed(x, 1, 3, "run 1;stop");
            Due.feed(x, "run ");
            if (bySnapshot) {
                x.saveSnapshot();
                Due.is(1, x.restoreSnapshot());
                x.load(1);
                x.restoreSnapshot();
            } else {
                x.undo();
                x.undo();
            }
            Due.is("h1:1", Sight.line(x));
            Due.is(6, x.faultPosition());
            Due.is("7 1 3", Sight.denial(x));
            Due.is(5, x.feed('7'));
            Due.is(1, x.execute());
            Due.is(7, x.minute());
            // nor does the executed text come back into the buffer
            x.undo();
            Due.is(1, x.feed('7'));
            Due.is(0, x.minute());
        }
        // where there was nothing, nothing is forgotten or made
        StoneChurn y = new StoneChurn();
        y.load(9);
        y.saveSnapshot();
        y.undo();
        y.restoreSnapshot();
        Due.fails(NONE, () -> y.faultPosition());
        Due.fails(NONE, () -> y.denial());
        Due.is("", Sight.line(y));
    }

    // ---- undo

    private static void undoesLatest() {
        String[] texts = {"stop;cut 0;cut 0;cut 0;cut 1;cut 1;phase t 30 1", "stop;cut 7;phase c 1 1", "run 100",
            "run 30;crush 0;press 3", "run 2;grade 0;press 9", "load 63;crush 11;press 20", "load 91", "stop;start"};
        for (String text : texts) {
            StoneChurn x = full();
            String before = Sight.state(x);
            Due.execute(x, text);
            Due.is(false, before.equals(Sight.state(x)));
            x.undo();
            Due.is(before, Sight.state(x));
        }
        StoneChurn y = new StoneChurn();
        Setup.cycle(y, "h9:5");
        y.load(50);
        y.start();
        String[] states = new String[8];
        Due.Call[] changes = {() -> y.run(8), () -> y.press(20), () -> y.run(30), () -> y.press(10),
            () -> y.gradePat(0), () -> y.crush(0), () -> y.start(), () -> y.stop()};
        for (int i = 0; i < 8; i++) {
            states[i] = Sight.state(y);
            changes[i].answer();
        }
        for (int i = 7; i >= 0; i--) {
            Due.is(i, y.undo());
            Due.is(states[i], Sight.state(y));
        }
    }

    private static void countAfterwards() {
        StoneChurn x = new StoneChurn();
        x.run(1);
        Due.is(0, x.undo());
        for (int i = 0; i < 9; i++) {
            x.run(1);
        }
        for (int i = 7; i >= 0; i--) {
            Due.is(i, x.undo());
            Due.is(i, x.undoCount());
        }
    }

    private static void nothingToUndo() {
        StoneChurn x = new StoneChurn();
        Due.fails(STATE, () -> x.undo());
        Due.outcome(() -> x.load(0));
        Due.outcome(() -> x.stop());
        Due.fails(STATE, () -> x.undo());
        x.run(1);
        Due.is(0, x.undo());
        Due.fails(STATE, () -> x.undo());
        Due.is(0, x.minute());
        x.run(1);
        x.saveSnapshot();
        x.restoreSnapshot();
        Due.fails(STATE, () -> x.undo());
        Due.is(1, x.minute());
        Due.is(0, x.undoCount());
    }

    private static void undoCount() {
        StoneChurn x = new StoneChurn();
        Due.is(0, x.undoCount());
        for (int i = 1; i <= 20; i++) {
            x.run(1);
            Due.is(Math.min(8, i), x.undoCount());
        }
        x.undo();
        Due.is(7, x.undoCount());
        x.run(1);
        Due.is(8, x.undoCount());
        x.run(1);
        Due.is(8, x.undoCount());
    }

    // ---- snapshots

    /** Twelve pats that differ, a smoothness and a stress, graded pats, and a cycle that is running. */
    private static StoneChurn full() {
        StoneChurn x = new StoneChurn();
        Setup.cycle(x, "h9:2", "t9:5", "h9:4", "t7:4", "r3:1", "c9:1", "t1:1", "r30:5");
        x.load(100);
        x.press(13);
        x.gradePat(0);
        x.start();
        for (int i = 1; i <= 12; i++) {
            x.run(3);
            x.press(i);
        }
        Due.is("1@20#0", Due.line(x, x.writePat(0)));
        Due.is("6@20#45", Due.line(x, x.writePat(5)));
        Due.is("12@180#45///", Due.line(x, x.writePat(11)));
        Setup.looks(x, 9, 180, 45, 26);
        return x;
    }

    /** Everything becomes another, the places of all pats and phases too. */
    private static void turnOver(StoneChurn x) {
        x.run(240);
        for (int i = 0; i < 8; i++) {
            x.removePhase(0);
        }
        x.gradePat(0);
        for (int i = 0; i < 11; i++) {
            x.crush(0);
        }
        x.load(13);
        Setup.bring(x, 90);
        Setup.phase(x, 't', 3, 5);
        Setup.bring(x, 130);
        Setup.phase(x, 't', 10, 5);
        for (int mass = 12; mass >= 1; mass--) {
            x.press(mass);
        }
        for (int i = 1; i <= 8; i++) {
            x.addPhase('r', i, 3);
        }
        x.start();
        x.run(2);
    }

    private static void replacesSnapshot() {
        StoneChurn x = full();
        String first = Sight.state(x);
        Due.is(12, x.saveSnapshot());
        turnOver(x);
        Due.is(false, first.equals(Sight.state(x)));
        Due.is(12, x.restoreSnapshot());
        Due.is(first, Sight.state(x));
        // the later snapshot is restored, not the earlier one
        StoneChurn y = full();
        y.saveSnapshot();
        turnOver(y);
        y.saveSnapshot();
        String second = Sight.state(y);
        y.crush(0);
        y.run(9);
        y.restoreSnapshot();
        Due.is(second, Sight.state(y));
    }

    private static void patsSaved() {
        StoneChurn x = new StoneChurn();
        Due.is(0, x.saveSnapshot());
        x.load(100);
        for (int i = 1; i <= 12; i++) {
            x.press(1);
            Due.is(i, x.saveSnapshot());
            Due.is(i, x.patCount());
        }
        x.undo();
        Due.is(11, x.saveSnapshot());
    }

    private static void keepsSnapshot() {
        StoneChurn x = new StoneChurn();
        x.load(40);
        x.press(1);
        x.saveSnapshot();
        for (int i = 0; i < 3; i++) {
            x.press(9);
            x.crush(0);
            x.run(5);
            Due.is(1, x.restoreSnapshot());
            Due.is(39, x.mass());
            Due.is(0, x.minute());
            Due.is(1, x.patMass(0));
        }
        Due.is(1, x.restoreSnapshot());
        // undoing a change that came before the snapshot, or after, leaves the snapshot alone
        StoneChurn y = new StoneChurn();
        y.load(40);
        y.load(1);
        y.saveSnapshot();
        y.load(2);
        y.undo();
        y.undo();
        y.undo();
        Due.is(0, y.mass());
        y.restoreSnapshot();
        Due.is(41, y.mass());
    }

    private static void nothingUndoneAfterwards() {
        StoneChurn x = new StoneChurn();
        for (int i = 0; i < 10; i++) {
            x.load(1);
        }
        x.saveSnapshot();
        Due.is(8, x.undoCount());
        x.restoreSnapshot();
        Due.is(0, x.undoCount());
        Due.fails(STATE, () -> x.undo());
        Due.is(10, x.mass());
        // and only what changes since then can be
        x.load(5);
        x.load(6);
        Due.is(2, x.undoCount());
        Due.is(1, x.undo());
        Due.is(0, x.undo());
        Due.fails(STATE, () -> x.undo());
        Due.is(10, x.mass());
    }

    private static void patsRestored() {
        StoneChurn x = new StoneChurn();
        x.load(100);
        for (int pats = 0; pats <= 12; pats++) {
            x.saveSnapshot();
            for (int i = pats; i < 12; i++) {
                x.press(1);
            }
            Due.is(pats, x.restoreSnapshot());
            Due.is(pats, x.patCount());
            if (pats < 12) {
                x.press(1);
            }
        }
        x.crush(0);
        Due.is(12, x.restoreSnapshot());
    }

    private static void noSnapshot() {
        StoneChurn x = new StoneChurn();
        Due.fails(STATE, () -> x.restoreSnapshot());
        x.load(3);
        Due.fails(STATE, () -> x.restoreSnapshot());
        Due.is(3, x.mass());
        Due.is(1, x.undoCount());
        x.saveSnapshot();
        Due.is(0, x.restoreSnapshot());
        // a snapshot of a new object is one
        StoneChurn y = new StoneChurn();
        y.saveSnapshot();
        y.load(3);
        Due.is(0, y.restoreSnapshot());
        Due.is(0, y.mass());
    }
}
