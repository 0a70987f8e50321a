/** Promises 51 to 54: undo and snapshots. */
public final class UndoTest {
    private static final Class<IllegalStateException> STATE = IllegalStateException.class;

    private UndoTest() {
    }

    public static void main(String[] args) {
        undoEachChange();
        undoOfPats();
        undoLatestEight();
        onlyChangesCount();
        undoLeavesTheRest();
        snapshots();
        snapshotIsKept();
        Due.end("UndoTest");
    }

    /** Everything that changes can change, as one text, read by calls that change nothing of it. */
    private static String state(StoneChurn x) {
        StringBuilder text = new StringBuilder(Due.line(x, x.writeCycle()));
        for (int i = 0; i < x.patCount(); i++) {
            text.append(", ").append(Due.line(x, x.writePat(i)));
        }
        text.append(" left ").append(x.minutesLeft()).append(" finished ").append(x.finishedCycles());
        text.append(" mass ").append(x.mass()).append(" at ").append(x.temperature());
        text.append(" smooth ").append(x.smoothness()).append(" stress ").append(x.stress());
        text.append(" minute ").append(x.minute()).append(" loaded ").append(x.loadedMass());
        text.append(" graded ").append(x.gradedMass());
        for (char grade = 'a'; grade <= 'e'; grade++) {
            text.append(' ').append(x.gradedCount(grade));
        }
        return text.toString();
    }

    private static void undoOf(StoneChurn x, Due.Call change) {
        String before = state(x);
        int count = x.undoCount();
        change.answer();
        Due.promise("52");
        Due.is(Math.min(8, count + 1), x.undoCount());
        String after = state(x);
        Due.promise("51");
        Due.is(false, before.equals(after));
        Due.is(Math.min(7, count), x.undo());
        Due.is(before, state(x));
        change.answer();
        Due.is(after, state(x));
    }

    private static void undoEachChange() {
        StoneChurn x = new StoneChurn();
        undoOf(x, () -> x.addPhase('h', 20, 4));
        undoOf(x, () -> x.addPhase('t', 20, 5));
        undoOf(x, () -> x.addPhase('r', 20, 5));
        undoOf(x, () -> x.removePhase(1));
        undoOf(x, () -> x.load(50));
        undoOf(x, () -> x.start());
        undoOf(x, () -> x.run(19));
        undoOf(x, () -> x.press(20));
        undoOf(x, () -> x.press(10));
        undoOf(x, () -> x.run(240));
        undoOf(x, () -> x.gradePat(0));
        undoOf(x, () -> x.crush(0));
        undoOf(x, () -> x.start());
        undoOf(x, () -> x.stop());
        undoOf(x, () -> Due.execute(x, "load 10;press 3;start;run 7;press 5;stop"));
        undoOf(x, () -> Due.execute(x, "run 100;grade 0"));
        undoOf(x, () -> Due.execute(x, "crush 0;phase h 5 4;cut 0;cut 0;start"));
        undoOf(x, () -> x.run(5));
        undoOf(x, () -> Due.execute(x, "phase t 9 5;cut 0;start;press 1"));
        undoOf(x, () -> x.run(9));
        undoOf(x, () -> x.press(2));
    }

    /** Pats that differ in all that they have come back with it. */
    private static void undoOfPats() {
        StoneChurn x = new StoneChurn();
        Due.execute(x, "load 90;phase h 10 3;phase t 10 5;phase h 4 5;phase t 9 5");
        x.start();
        x.run(15);
        x.press(9);
        x.run(10);
        x.press(8);
        x.run(8);
        x.press(7);
        Due.promise("51");
        Due.is("9@20#25/", Due.line(x, x.writePat(0)));
        Due.is("8@130#50/", Due.line(x, x.writePat(1)));
        Due.is("7@170#50/////", Due.line(x, x.writePat(2)));
        undoOf(x, () -> x.crush(0));
        undoOf(x, () -> x.crush(0));
        undoOf(x, () -> x.crush(0));
    }

    private static void undoLatestEight() {
        Due.promise("51");
        StoneChurn x = new StoneChurn();
        Due.fails(STATE, () -> x.undo());
        Due.is(0, x.undoCount());
        for (int i = 1; i <= 11; i++) {
            x.load(1);
            Due.promise("52");
            Due.is(Math.min(8, i), x.undoCount());
        }
        Due.promise("51");
        for (int i = 1; i <= 3; i++) {
            Due.is(8 - i, x.undo());
            Due.is(11 - i, x.mass());
        }
        x.load(50);
        x.load(2);
        Due.is(7, x.undoCount());
        Due.is(6, x.undo());
        Due.is(58, x.mass());
        for (int i = 5; i >= 0; i--) {
            Due.is(i, x.undo());
            Due.is(3 + i, x.mass());
        }
        Due.fails(STATE, () -> x.undo());
        Due.is(3, x.mass());
        Due.is(0, x.undoCount());
    }

    private static void onlyChangesCount() {
        Due.promise("52");
        StoneChurn x = new StoneChurn();
        x.load(10);
        Due.outcome(() -> x.load(91));
        Due.outcome(() -> x.load(0));
        Due.outcome(() -> x.start());
        Due.outcome(() -> x.stop());
        Due.outcome(() -> x.run(0));
        Due.outcome(() -> x.press(11));
        Due.outcome(() -> x.press(21));
        Due.outcome(() -> x.gradePat(0));
        Due.outcome(() -> x.crush(0));
        Due.outcome(() -> x.addPhase('x', 1, 1));
        Due.outcome(() -> x.removePhase(0));
        Due.outcome(() -> Due.execute(x, "run 1;stop"));
        Due.outcome(() -> Due.execute(x, "run 1;"));
        x.feed('s');
        x.writeCycle();
        x.minutesLeft();
        x.peakTemperature();
        x.temperatureAfter(5);
        x.smoothnessAfter(5);
        x.saveSnapshot();
        Due.is(1, x.undoCount());
        // a change that alters nothing to be seen is a change all the same
        x.addPhase('r', 1, 1);
        x.start();
        Due.is(3, x.undoCount());
    }

    private static void undoLeavesTheRest() {
        Due.promise("51");
        StoneChurn x = new StoneChurn();
        x.load(10);
        Due.feed(x, "run");
        x.undo();
        Due.is(4, x.feed(' '));
        x.saveSnapshot();
        Due.is(5, x.feed('7'));
        x.restoreSnapshot();
        Due.is(1, x.execute());
        Due.is(7, x.minute());
    }

    private static void snapshots() {
        Due.promise("54");
        StoneChurn x = new StoneChurn();
        Due.fails(STATE, () -> x.restoreSnapshot());
        Due.execute(x, "phase h 9 4;phase t 9 5;load 80;start;run 11;press 9");
        x.press(8);
        Due.promise("53");
        String saved = state(x);
        Due.is(2, x.saveSnapshot());
        Due.is(saved, state(x));
        Due.is(2, x.undoCount());
        Due.execute(x, "run 50;grade 0;crush 0;cut 1;load 5");
        x.press(1);
        Due.is(false, saved.equals(state(x)));
        Due.is(4, x.undoCount());
        Due.promise("54");
        Due.is(2, x.restoreSnapshot());
        Due.is(saved, state(x));
        Due.is(0, x.undoCount());
        Due.fails(STATE, () -> x.undo());
        x.run(1);
        Due.is(1, x.undoCount());
        x.undo();
        Due.is(saved, state(x));
    }

    private static void snapshotIsKept() {
        Due.promise("54");
        StoneChurn x = new StoneChurn();
        x.load(40);
        Due.is(0, x.saveSnapshot());
        x.press(5);
        // undoing what came before the snapshot leaves it alone
        x.undo();
        x.undo();
        Due.is(0, x.mass());
        Due.is(0, x.restoreSnapshot());
        Due.is(40, x.mass());
        x.press(6);
        Due.is(0, x.restoreSnapshot());
        Due.is(40, x.mass());
        x.press(7);
        x.press(8);
        Due.promise("53");
        Due.is(2, x.saveSnapshot());
        x.crush(0);
        x.crush(0);
        Due.promise("54");
        Due.is(2, x.restoreSnapshot());
        Due.is(25, x.mass());
        Due.is(8, x.patMass(1));
        Due.is(2, x.restoreSnapshot());
    }
}
