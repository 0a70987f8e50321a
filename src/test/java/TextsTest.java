import java.util.NoSuchElementException;

/** Promises 42 to 47: texts and output lines. */
public final class TextsTest {
    private static final Class<IllegalArgumentException> ARGUMENT = IllegalArgumentException.class;
    private static final Class<UnsupportedOperationException> DENIED = UnsupportedOperationException.class;
    private static final Class<IndexOutOfBoundsException> INDEX = IndexOutOfBoundsException.class;
    private static final Class<IllegalStateException> STATE = IllegalStateException.class;
    private static final Class<NoSuchElementException> NONE = NoSuchElementException.class;

    private TextsTest() {
    }

    public static void main(String[] args) {
        feed();
        executeEach();
        executeMany();
        executeNone();
        bufferIsEmptied();
        faultPosition();
        faultIsKept();
        writeCycle();
        writePat();
        lineCharacter();
        Due.end("TextsTest");
    }

    private static void feed() {
        Due.promise("42");
        StoneChurn x = new StoneChurn();
        for (int i = 1; i <= 60; i++) {
            Due.is(i, x.feed((char) (i * 1091)));
        }
        Due.fails(STATE, () -> x.feed('a'));
        Due.fails(STATE, () -> x.feed(';'));
        Due.fails(ARGUMENT, () -> x.execute());
        Due.is(1, x.feed((char) 65535));
        Due.is(2, x.feed((char) 0));
        Due.fails(ARGUMENT, () -> x.execute());
        Due.is(0, x.faultPosition());
        Due.is(0, x.undoCount());
        // a full buffer refuses a character and stays as it is
        for (int i = 0; i < 10; i++) {
            Due.feed(x, "run 1;");
        }
        Due.fails(STATE, () -> x.feed('s'));
        Due.fails(ARGUMENT, () -> x.execute());
        Due.is(60, x.faultPosition());
    }

    private static void executeEach() {
        Due.promise("43");
        StoneChurn x = new StoneChurn();
        Due.is(1, Due.execute(x, "phase h 5 2"));
        Due.is(1, Due.execute(x, "phase c 030 5"));
        Due.is(1, Due.execute(x, "phase t 001 1"));
        Due.is(1, Due.execute(x, "phase r 10 3"));
        Due.is("h5:2 c30:5 t1:1 r10:3", Due.line(x, x.writeCycle()));
        Due.is(1, Due.execute(x, "cut 1"));
        Due.is("h5:2 t1:1 r10:3", Due.line(x, x.writeCycle()));
        Due.is(1, Due.execute(x, "load 007"));
        Due.is(7, x.mass());
        Due.is(1, Due.execute(x, "load 93"));
        Due.is(100, x.mass());
        Due.is(1, Due.execute(x, "start"));
        Due.is(true, x.isRunning());
        Due.is(1, Due.execute(x, "run 5"));
        Due.is(50, x.temperature());
        Due.is(5, x.minute());
        Due.is(1, Due.execute(x, "stop"));
        Due.is(false, x.isRunning());
        Due.is(1, Due.execute(x, "run 240"));
        Due.is(245, x.minute());
        Due.is(1, Due.execute(x, "press 20"));
        Due.is(1, Due.execute(x, "press 03"));
        Due.is(23, x.patMass(0) + x.patMass(1));
        Due.is(1, Due.execute(x, "crush 0"));
        Due.is(97, x.mass());
        Due.is(3, x.patMass(0));
        x.run(4);
        Due.is(1, Due.execute(x, "grade 000"));
        Due.is(1, x.gradedCount('e'));
        Due.is(3, x.gradedMass());
        Due.is(8, x.undoCount());
    }

    private static void executeMany() {
        Due.promise("43");
        StoneChurn x = new StoneChurn();
        x.addPhase('h', 1, 1);
        Due.is(10, Due.execute(x, "start;stop;start;stop;start;stop;start;stop;start;stop"));
        Due.is(2, x.undoCount());
        Due.is(4, Due.execute(x, "load 20;start;run 1;press 20"));
        Due.is(23, x.patTemperature(0));
        Due.is(0, x.mass());
        Due.is(1, x.finishedCycles());
        Due.is(3, Due.execute(x, "crush 0;phase r 2 1;cut 0"));
        Due.is("r2:1", Due.line(x, x.writeCycle()));
        Due.is(4, x.undoCount());
        Due.is(3, x.undo());
        Due.is("h1:1", Due.line(x, x.writeCycle()));
        Due.is(1, x.patCount());
        Due.is(2, x.undo());
        Due.is(0, x.patCount());
        Due.is(0, x.minute());
        Due.is(20, x.temperature());
        // a text of 60 characters, and one of as many commands as a text can have
        Due.is(11, Due.execute(x, "start;stop;start;stop;start;stop;start;stop;start;stop;start"));
        Due.is(true, x.isRunning());
        Due.fails(DENIED, () -> Due.execute(x, "stop;stop;stop;stop;stop;stop;stop;stop;stop;stop;stop;stop"));
        Due.is(1, x.denialDetail());
        Due.is(true, x.isRunning());
    }

    private static void executeNone() {
        Due.promise("43");
        StoneChurn x = new StoneChurn();
        x.load(30);
        Due.fails(DENIED, () -> Due.execute(x, "phase h 3 3;start;run 2;press 10;press 20;press 1"));
        Due.is(7, x.denial());
        Due.is(5, x.denialDetail());
        Due.is(5, x.denialCause());
        Due.is(0, x.phaseCount());
        Due.is(false, x.isRunning());
        Due.is(0, x.minute());
        Due.is(0, x.patCount());
        Due.is(30, x.mass());
        Due.is(20, x.temperature());
        Due.is(1, x.undoCount());
        // each command with wrong numbers
        String[] wrong = {"phase h 0 1", "phase h 31 1", "phase h 1 0", "phase h 1 6", "cut 0", "cut 9", "load 0",
            "load 101", "run 0", "run 241", "run 999", "press 0", "press 21", "grade 0", "grade 999", "crush 0",
            "crush 12"};
        for (String command : wrong) {
            StoneChurn y = new StoneChurn();
            y.load(30);
            Due.fails(DENIED, () -> Due.execute(y, "load 1;" + command + ";load 1"));
            Due.is(7, y.denial());
            Due.is(1, y.denialDetail());
            Due.is(8, y.denialCause());
            Due.is(30, y.mass());
        }
        Due.fails(DENIED, () -> Due.execute(x, "load 1;load 0"));
        // a text that does not match is not executed at all, and denies nothing
        Due.fails(ARGUMENT, () -> Due.execute(x, "load 1;load 0;"));
        Due.is(8, x.denialCause());
        Due.is(30, x.mass());
        Due.is(1, x.undoCount());
        Due.fails(DENIED, () -> Due.execute(x, "stop"));
        Due.is(0, x.denialDetail());
        Due.is(3, x.denialCause());
    }

    private static void bufferIsEmptied() {
        Due.promise("43");
        StoneChurn x = new StoneChurn();
        Due.feed(x, "run 5");
        x.execute();
        Due.is(1, x.feed('x'));
        Due.fails(ARGUMENT, () -> x.execute());
        Due.feed(x, "stop");
        Due.fails(DENIED, () -> x.execute());
        Due.is(1, x.feed('r'));
        Due.is(1, Due.execute(x, "un 1"));
        Due.is(6, x.minute());
        Due.fails(ARGUMENT, () -> x.execute());
        Due.is(0, x.faultPosition());
    }

    private static void faultPosition() {
        Due.promise("44");
        StoneChurn x = new StoneChurn();
        Due.fails(NONE, () -> x.faultPosition());
        Due.is(1, Due.execute(x, "run 1"));
        Due.fails(NONE, () -> x.faultPosition());
        fault("", 0);
        fault(" ", 0);
        fault(";", 0);
        fault("x", 0);
        fault("Run 1", 0);
        fault(" run 1", 0);
        fault("p", 1);
        fault("pa", 1);
        fault("phrase h 1 1", 2);
        fault("prase", 2);
        fault("phase", 5);
        fault("phase ", 6);
        fault("phase  h", 6);
        fault("phase x 1 1", 6);
        fault("phase h", 7);
        fault("phase hc", 7);
        fault("phase h ", 8);
        fault("phase h x", 8);
        fault("phase h  1", 8);
        fault("phase h 1", 9);
        fault("phase h 1;", 9);
        fault("phase h 12x", 10);
        fault("phase h 123", 11);
        fault("phase h 1234 1", 11);
        fault("phase h 1 ", 10);
        fault("phase h 1  1", 10);
        fault("phase h 1 x", 10);
        fault("phase h 1 1 ", 11);
        fault("phase h 1 12", 11);
        fault("phase h 1 1;", 12);
        fault("c", 1);
        fault("ca", 1);
        fault("cu", 2);
        fault("cru", 3);
        fault("cruxh", 3);
        fault("cut", 3);
        fault("cut ", 4);
        fault("cut x", 4);
        fault("cut 12", 5);
        fault("cut 1x", 5);
        fault("load", 4);
        fault("load;", 4);
        fault("load 1234", 8);
        fault("load 12 ", 7);
        fault("load 12.", 7);
        fault("load -1", 5);
        fault("s", 1);
        fault("st", 2);
        fault("stx", 2);
        fault("sta", 3);
        fault("sto", 3);
        fault("star", 4);
        fault("stop ", 4);
        fault("stopx", 4);
        fault("starts", 5);
        fault("start ", 5);
        fault("start;", 6);
        fault("start;;", 6);
        fault("start; stop", 6);
        fault("start;stop;x", 11);
        fault("run", 3);
        fault("run ", 4);
        fault("run/1", 3);
        fault("run :", 4);
        fault("run /", 4);
        fault("run 1" + (char) 0x663, 5);
        fault("r", 1);
        fault("grade", 5);
        fault("grade a", 6);
        fault("g 1", 1);
        fault("crush", 5);
        fault("crush x", 6);
        fault("press", 5);
        fault("press 1,2", 7);
        fault("phase " + (char) ('h' + 256) + " 1 1", 6);
        fault("stop;stop;stop;stop;stop;stop;stop;stop;stop;stop;stop;stop;", 60);
        fault("stop;stop;stop;stop;stop;stop;stop;stop;stop;stop;stop;stopx", 59);
        // texts that end too early at the end of a full buffer
        fault("run 001;run 001;run 001;run 001;run 001;run 001;stop;phase ", 59);
        fault("run 001;run 001;run 001;run 001;run 001;run 001;start;phase ", 60);
        fault("run 001;run 001;run 001;run 001;run 001;run 01;start;phase h", 60);
        fault("run 001;run 001;run 001;run 001;run 001;run 001;start;start;", 60);
        fault("run 001;run 001;run 001;run 001;run 001;run 001;start;start;".substring(0, 58) + "ru", 58);
        fault("run 001;run 001;run 001;run 001;run 001;run 001;run 001;run ", 60);
        fault("run 001;run 001;run 001;run 001;run 001;run 001;run 1;phase ", 60);
        // signs of an earlier text do not continue a later one
        fault(x, "phase h 1 1;phase h 1 1;x", 24);
        fault(x, "phase ", 6);
        fault(x, "phase h", 7);
        fault(x, "phase h 1", 9);
        fault(x, "phase h 1 ", 10);
        fault(x, "pha", 3);
        fault(x, "phase h 1 1;", 12);
        Due.is(0, x.patCount());
        Due.fails(NONE, () -> x.denial());
    }

    private static void fault(String text, int due) {
        fault(new StoneChurn(), text, due);
    }

    private static void fault(StoneChurn x, String text, int due) {
        Due.fails(ARGUMENT, () -> Due.execute(x, text));
        Due.is(due, x.faultPosition());
    }

    private static void faultIsKept() {
        Due.promise("44");
        StoneChurn x = new StoneChurn();
        x.load(1);
        x.saveSnapshot();
        fault(x, "load 1;q", 7);
        Due.is(1, Due.execute(x, "load 1"));
        Due.is(7, x.faultPosition());
        Due.fails(DENIED, () -> Due.execute(x, "stop"));
        Due.is(7, x.faultPosition());
        x.undo();
        Due.is(7, x.faultPosition());
        x.restoreSnapshot();
        Due.is(7, x.faultPosition());
    }

    private static void writeCycle() {
        Due.promise("45");
        StoneChurn x = new StoneChurn();
        Due.is(0, x.writeCycle());
        x.addPhase('h', 10, 3);
        Due.is(5, x.writeCycle());
        Due.is("h10:3", Due.line(x, 5));
        x.addPhase('t', 20, 1);
        x.addPhase('r', 5, 2);
        Due.is("h10:3 t20:1 r5:2", Due.line(x, x.writeCycle()));
        x.start();
        Due.is("h10:3* t20:1 r5:2", Due.line(x, x.writeCycle()));
        x.run(12);
        Due.is("h10:3 t20:1* r5:2", Due.line(x, x.writeCycle()));
        x.run(18);
        Due.is("h10:3 t20:1 r5:2*", Due.line(x, x.writeCycle()));
        x.run(5);
        Due.is("h10:3 t20:1 r5:2", Due.line(x, x.writeCycle()));
        x.start();
        x.stop();
        Due.is("h10:3 t20:1 r5:2", Due.line(x, x.writeCycle()));
        for (int i = 0; i < 5; i++) {
            x.addPhase('c', 30, 5);
        }
        x.removePhase(2);
        x.addPhase('h', 11, 4);
        x.start();
        Due.is(48, x.writeCycle());
        Due.is("h10:3* t20:1 c30:5 c30:5 c30:5 c30:5 c30:5 h11:4", Due.line(x, 48));
    }

    private static void writePat() {
        Due.promise("46");
        StoneChurn x = new StoneChurn();
        Due.fails(INDEX, () -> x.writePat(0));
        x.load(50);
        x.press(1);
        Due.is(6, x.writePat(0));
        Due.is("1@20#0", Due.line(x, 6));
        Due.execute(x, "phase h 10 3;phase t 20 5;phase h 30 5;phase t 26 5");
        x.start();
        x.run(30);
        x.press(12);
        Due.is("12@110#100/", Due.line(x, x.writePat(1)));
        x.run(56);
        x.press(20);
        Due.is(20, x.writePat(2));
        Due.is("20@200#100//////////", Due.line(x, 20));
        Due.is("12@20#100/", Due.line(x, x.writePat(1)));
        for (int pat : new int[] {-1, 3, Integer.MAX_VALUE, Integer.MIN_VALUE}) {
            Due.fails(INDEX, () -> x.writePat(pat));
        }
        Due.is("12@20#100/", Due.line(x, 10));
    }

    private static void lineCharacter() {
        Due.promise("47");
        StoneChurn x = new StoneChurn();
        Due.fails(INDEX, () -> x.lineCharacter(0));
        x.addPhase('h', 10, 3);
        x.load(10);
        x.press(1);
        Due.fails(INDEX, () -> x.lineCharacter(0));
        x.writePat(0);
        Due.is('1', x.lineCharacter(0));
        Due.is('0', x.lineCharacter(5));
        Due.fails(INDEX, () -> x.lineCharacter(6));
        x.writeCycle();
        Due.is('h', x.lineCharacter(0));
        Due.is('3', x.lineCharacter(4));
        for (int index : new int[] {-1, 5, Integer.MAX_VALUE, Integer.MIN_VALUE}) {
            Due.fails(INDEX, () -> x.lineCharacter(index));
        }
        // the line is written once: changes, undo and snapshots leave it alone
        x.saveSnapshot();
        x.removePhase(0);
        Due.is('h', x.lineCharacter(0));
        x.undo();
        x.restoreSnapshot();
        Due.is("h10:3", Due.line(x, 5));
        x.removePhase(0);
        Due.is(0, x.writeCycle());
        Due.fails(INDEX, () -> x.lineCharacter(0));
        x.undo();
        Due.fails(INDEX, () -> x.lineCharacter(0));
    }
}
