/** Promises 51 to 54: undo and snapshots. */
public final class UndoTest {
    private static final Class<IllegalStateException> STATE = IllegalStateException.class;

    private UndoTest() {
    }

    public static void main(String[] args) {
        undoEachChange();
        undoOfPats();
        undoLatestEight();
        onlyChangesCount();
        undoLeavesTheRest();
        snapshots();
        snapshotIsKept();
        Due.end("UndoTest");
    }

    /** A change of a churn. */
    private interface Change {
        Object of(StoneChurn x);
    }

    private static void undoOf(StoneChurn x, Change change) {
        String before = Sight.state(x);
        int count = x.undoCount();
        change.of(x);
        Due.promise("52");
        Due.is(Math.min(8, count + 1), x.undoCount());
        String after = Sight.state(x);
        Due.promise("51");
        Due.is(false, before.equals(after));
        Due.is(Math.min(7, count), x.undo());
        Due.is(before, Sight.state(x));
        change.of(x);
        Due.is(after, Sight.state(x));
    }

    /** Each change is undone on an object of its own, on which those before it have been made. */
    private static void undoEachChange() {
        Change[] changes = {x -> x.addPhase('h', 20, 4), x -> x.addPhase('t', 20, 5), x -> x.addPhase('r', 20, 5),
            x -> x.removePhase(1), x -> x.load(50), x -> x.start(), x -> x.run(19), x -> x.press(20),
            x -> x.press(10), x -> x.run(240), x -> x.gradePat(0), x -> x.crush(0), x -> x.start(), x -> x.stop(),
            x -> Due.execute(x, "load 10;press 3;start;run 7;press 5;stop"), x -> Due.execute(x, "run 100;grade 0"),
            x -> Due.execute(x, "crush 0;phase h 5 4;cut 0;cut 0;start"), x -> x.run(5),
            x -> Due.execute(x, "phase t 9 5;cut 0;start;press 1"), x -> x.run(9), x -> x.press(2)};
        for (int last = 0; last < changes.length; last++) {
            StoneChurn x = new StoneChurn();
            for (int i = 0; i < last; i++) {
                changes[i].of(x);
            }
            undoOf(x, changes[last]);
        }
    }

    /** Pats that differ in all that they have come back with it. */
    private static void undoOfPats() {
        Change[] changes = {x -> x.crush(0), x -> x.crush(1), x -> x.crush(2), x -> x.gradePat(0)};
        for (Change change : changes) {
            StoneChurn x = new StoneChurn();
            Due.execute(x, "load 90;phase h 10 3;phase t 10 5;phase h 4 5;phase t 9 5");
            x.start();
            x.run(15);
            x.press(9);
            x.run(10);
            x.press(8);
            x.run(8);
            x.press(7);
            Due.promise("51");
            Due.is("9@20#25/", Due.line(x, x.writePat(0)));
            Due.is("8@130#50/", Due.line(x, x.writePat(1)));
            Due.is("7@170#50/////", Due.line(x, x.writePat(2)));
            undoOf(x, change);
        }
    }

    private static void undoLatestEight() {
        Due.promise("51");
        StoneChurn x = new StoneChurn();
        Due.fails(STATE, () -> x.undo());
        Due.is(0, x.undoCount());
        for (int i = 1; i <= 11; i++) {
            x.load(1);
            Due.promise("52");
            Due.is(Math.min(8, i), x.undoCount());
        }
        Due.promise("51");
        for (int i = 1; i <= 3; i++) {
            Due.is(8 - i, x.undo());
            Due.is(11 - i, x.mass());
        }
        x.load(50);
        x.load(2);
        Due.is(7, x.undoCount());
        Due.is(6, x.undo());
        Due.is(58, x.mass());
        for (int i = 5; i >= 0; i--) {
            Due.is(i, x.undo());
            Due.is(3 + i, x.mass());
        }
        Due.fails(STATE, () -> x.undo());
        Due.is(3, x.mass());
        Due.is(0, x.undoCount());
    }

    private static void onlyChangesCount() {
        Due.promise("52");
        StoneChurn x = new StoneChurn();
        x.load(10);
        Due.outcome(() -> x.load(91));
        Due.outcome(() -> x.load(0));
        Due.outcome(() -> x.start());
        Due.outcome(() -> x.stop());
        Due.outcome(() -> x.run(0));
        Due.outcome(() -> x.press(11));
        Due.outcome(() -> x.press(21));
        Due.outcome(() -> x.gradePat(0));
        Due.outcome(() -> x.crush(0));
        Due.outcome(() -> x.addPhase('x', 1, 1));
        Due.outcome(() -> x.removePhase(0));
        Due.outcome(() -> Due.execute(x, "run 1;stop"));
        Due.outcome(() -> Due.execute(x, "run 1;"));
        x.feed('s');
        x.writeCycle();
        x.minutesLeft();
        x.peakTemperature();
        x.temperatureAfter(5);
        x.smoothnessAfter(5);
        x.saveSnapshot();
        Due.is(1, x.undoCount());
        // a change that alters nothing to be seen is a change all the same
        x.addPhase('r', 1, 1);
        x.start();
        Due.is(3, x.undoCount());
    }

    private static void undoLeavesTheRest() {
        Due.promise("51");
        StoneChurn x = new StoneChurn();
        x.load(10);
        Due.feed(x, "run");
        x.undo();
        Due.is(4, x.feed(' '));
        x.saveSnapshot();
        Due.is(5, x.feed('7'));
        x.restoreSnapshot();
        Due.is(1, x.execute());
        Due.is(7, x.minute());
    }

    private static void snapshots() {
        Due.promise("54");
        StoneChurn x = new StoneChurn();
        Due.fails(STATE, () -> x.restoreSnapshot());
        Due.execute(x, "phase h 9 4;phase t 9 5;load 80;start;run 11;press 9");
        x.press(8);
        Due.promise("53");
        String saved = Sight.state(x);
        Due.is(2, x.saveSnapshot());
        Due.is(saved, Sight.state(x));
        Due.is(2, x.undoCount());
        Due.execute(x, "run 50;grade 0;crush 0;cut 1;load 5");
        x.press(1);
        Due.is(false, saved.equals(Sight.state(x)));
        Due.is(4, x.undoCount());
        Due.promise("54");
        Due.is(2, x.restoreSnapshot());
        Due.is(saved, Sight.state(x));
        Due.is(0, x.undoCount());
        Due.fails(STATE, () -> x.undo());
        x.run(1);
        Due.is(1, x.undoCount());
        x.undo();
        Due.is(saved, Sight.state(x));
    }

    private static void snapshotIsKept() {
        Due.promise("54");
        StoneChurn x = new StoneChurn();
        x.load(40);
        Due.is(0, x.saveSnapshot());
        x.press(5);
        // undoing what came before the snapshot leaves it alone
        x.undo();
        x.undo();
        Due.is(0, x.mass());
        Due.is(0, x.restoreSnapshot());
        Due.is(40, x.mass());
        x.press(6);
        Due.is(0, x.restoreSnapshot());
        Due.is(40, x.mass());
        x.press(7);
        x.press(8);
        Due.promise("53");
        Due.is(2, x.saveSnapshot());
        x.crush(0);
        x.crush(0);
        Due.promise("54");
        Due.is(2, x.restoreSnapshot());
        Due.is(25, x.mass());
        Due.is(8, x.patMass(1));
        Due.is(2, x.restoreSnapshot());
    }
}
