import java.util.NoSuchElementException;

/** Promises 48 to 50: the latest denial. */
public final class DenialTest {
    private static final Class<UnsupportedOperationException> DENIED = UnsupportedOperationException.class;
    private static final Class<NoSuchElementException> NONE = NoSuchElementException.class;

    private DenialTest() {
    }

    public static void main(String[] args) {
        nothingDenied();
        eachDenial();
        causes();
        denialIsKept();
        Due.end("DenialTest");
    }

    private static void denialIs(StoneChurn x, int number, int detail) {
        Due.promise("48");
        Due.is(number, x.denial());
        Due.promise("49");
        Due.is(detail, x.denialDetail());
        Due.promise("50");
        Due.fails(NONE, () -> x.denialCause());
    }

    private static void failureIs(StoneChurn x, int command, int cause) {
        Due.promise("48");
        Due.is(7, x.denial());
        Due.promise("49");
        Due.is(command, x.denialDetail());
        Due.promise("50");
        Due.is(cause, x.denialCause());
    }

    private static void nothingIsDenied(StoneChurn x) {
        Due.promise("48");
        Due.fails(NONE, () -> x.denial());
        Due.promise("49");
        Due.fails(NONE, () -> x.denialDetail());
        Due.promise("50");
        Due.fails(NONE, () -> x.denialCause());
    }

    private static void nothingDenied() {
        StoneChurn x = new StoneChurn();
        nothingIsDenied(x);
        x.load(1);
        Due.outcome(() -> x.load(0));
        Due.outcome(() -> x.gradePat(0));
        Due.outcome(() -> x.execute());
        Due.outcome(() -> x.undo());
        Due.outcome(() -> x.undo());
        Due.outcome(() -> x.presentPhase());
        nothingIsDenied(x);
    }

    private static void eachDenial() {
        StoneChurn x = new StoneChurn();
        Due.fails(DENIED, () -> x.start());
        denialIs(x, 4, 0);
        Due.fails(DENIED, () -> x.stop());
        denialIs(x, 3, 0);
        x.load(9);
        Due.fails(DENIED, () -> x.press(10));
        denialIs(x, 5, 9);
        Due.fails(DENIED, () -> x.load(92));
        denialIs(x, 1, 100);
        for (int i = 0; i < 8; i++) {
            x.addPhase('h', 1, 5);
        }
        Due.fails(DENIED, () -> x.addPhase('h', 1, 5));
        denialIs(x, 1, 8);
        x.start();
        x.run(7);
        Due.fails(DENIED, () -> x.addPhase('h', 1, 5));
        denialIs(x, 2, 7);
        Due.fails(DENIED, () -> x.removePhase(0));
        denialIs(x, 2, 7);
        Due.fails(DENIED, () -> x.start());
        denialIs(x, 2, 7);
        x.press(9);
        Due.fails(DENIED, () -> x.gradePat(0));
        denialIs(x, 6, 125);
        x.run(1);
        Due.fails(DENIED, () -> x.gradePat(0));
        denialIs(x, 6, 120);
        Due.fails(DENIED, () -> x.stop());
        denialIs(x, 3, 1);
        x.load(92);
        Due.fails(DENIED, () -> x.crush(0));
        denialIs(x, 1, 100);
    }

    private static void causes() {
        StoneChurn x = new StoneChurn();
        Due.fails(DENIED, () -> Due.execute(x, "start"));
        failureIs(x, 0, 4);
        Due.fails(DENIED, () -> Due.execute(x, "run 1;stop"));
        failureIs(x, 1, 3);
        Due.fails(DENIED, () -> Due.execute(x, "phase h 9 5;start;start"));
        failureIs(x, 2, 2);
        Due.fails(DENIED, () -> Due.execute(x, "phase h 9 5;start;run 3;cut 0"));
        failureIs(x, 3, 2);
        Due.fails(DENIED, () -> Due.execute(x, "load 99;load 2"));
        failureIs(x, 1, 1);
        Due.fails(DENIED, () -> Due.execute(x, "load 9;press 10"));
        failureIs(x, 1, 5);
        Due.fails(DENIED, () -> Due.execute(x, "phase h 9 5;load 9;start;run 9;press 9;grade 0"));
        failureIs(x, 5, 6);
        Due.fails(DENIED, () -> Due.execute(x, "load 9;press 9;load 92;crush 0"));
        failureIs(x, 3, 1);
        Due.fails(DENIED, () -> Due.execute(x, "run 1;run 0"));
        failureIs(x, 1, 8);
        Due.fails(DENIED, () -> Due.execute(x, "cut 0"));
        failureIs(x, 0, 8);
        Due.fails(DENIED, () -> x.stop());
        denialIs(x, 3, 0);
    }

    private static void denialIsKept() {
        StoneChurn x = new StoneChurn();
        x.saveSnapshot();
        x.load(5);
        Due.fails(DENIED, () -> Due.execute(x, "press 2;press 4"));
        x.press(5);
        Due.outcome(() -> x.press(21));
        Due.outcome(() -> x.execute());
        failureIs(x, 1, 5);
        x.undo();
        failureIs(x, 1, 5);
        x.restoreSnapshot();
        failureIs(x, 1, 5);
        Due.fails(DENIED, () -> x.press(4));
        denialIs(x, 5, 0);
        x.load(5);
        x.undo();
        denialIs(x, 5, 0);
    }
}
