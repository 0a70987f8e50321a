import java.util.NoSuchElementException;

/** Promises 23 to 35: pats. */
public final class PatsTest {
    private static final Class<IllegalArgumentException> ARGUMENT = IllegalArgumentException.class;
    private static final Class<UnsupportedOperationException> DENIED = UnsupportedOperationException.class;
    private static final Class<IndexOutOfBoundsException> INDEX = IndexOutOfBoundsException.class;
    private static final Class<NoSuchElementException> NONE = NoSuchElementException.class;
    private static final int[] NO_INDICES = {-1, 2, 12, Integer.MAX_VALUE, Integer.MIN_VALUE};

    private PatsTest() {
    }

    public static void main(String[] args) {
        press();
        pressDenied();
        gradePat();
        grades();
        crush();
        readings();
        cracksAndFirmness();
        cooling();
        patByFirmness();
        nextCool();
        fullTable();
        Due.end("PatsTest");
    }

    /** Lets one phase of a kind take place from its beginning to its end. */
    private static void phase(StoneChurn x, char kind, int minutes, int level) {
        while (x.phaseCount() > 0) {
            x.removePhase(0);
        }
        x.addPhase(kind, minutes, level);
        x.start();
        x.run(minutes);
    }

    private static void press() {
        Due.promise("23");
        StoneChurn x = new StoneChurn();
        x.load(100);
        phase(x, 'h', 10, 5);
        phase(x, 't', 5, 5);
        Due.is(0, x.press(20));
        Due.is(1, x.press(1));
        Due.is(79, x.mass());
        Due.is(170, x.temperature());
        Due.is(25, x.stress());
        Due.is(0, x.smoothness());
        Due.is(20, x.patMass(0));
        Due.is(1, x.patMass(1));
        for (int mass : new int[] {0, 21, -1, Integer.MAX_VALUE, Integer.MIN_VALUE}) {
            Due.fails(ARGUMENT, () -> x.press(mass));
        }
        Due.is(2, x.patCount());
        phase(x, 'c', 8, 5);
        phase(x, 't', 3, 3);
        Due.is(2, x.press(2));
        Due.is(9, x.smoothness());
        Due.is("2@90#9//", Due.line(x, x.writePat(2)));
        // pressing is not denied while the cycle is running
        x.start();
        Due.is(3, x.press(2));
        Due.is(true, x.isRunning());
    }

    private static void pressDenied() {
        Due.promise("23");
        StoneChurn x = new StoneChurn();
        Due.fails(DENIED, () -> x.press(1));
        Due.is(5, x.denial());
        Due.is(0, x.denialDetail());
        x.load(19);
        Due.fails(DENIED, () -> x.press(20));
        Due.is(5, x.denial());
        Due.is(19, x.denialDetail());
        Due.is(0, x.press(19));
        x.load(15);
        for (int i = 1; i < 12; i++) {
            Due.is(i, x.press(1));
        }
        Due.is(12, x.patCount());
        Due.fails(DENIED, () -> x.press(4));
        Due.is(1, x.denial());
        Due.is(12, x.denialDetail());
        Due.fails(DENIED, () -> x.press(5));
        Due.is(5, x.denial());
        Due.is(4, x.denialDetail());
        Due.fails(ARGUMENT, () -> x.press(21));
        Due.is(5, x.denial());
        Due.is(4, x.mass());
        Due.is(12, x.patCount());
    }

    private static void gradePat() {
        Due.promise("24");
        StoneChurn x = new StoneChurn();
        Due.fails(INDEX, () -> x.gradePat(0));
        x.load(50);
        phase(x, 'h', 6, 2);
        phase(x, 't', 20, 2);
        x.press(3);
        phase(x, 'c', 5, 1);
        x.press(4);
        phase(x, 't', 10, 1);
        x.press(5);
        Due.is(46, x.temperature());
        x.run(3);
        Due.fails(DENIED, () -> x.gradePat(2));
        Due.is(6, x.denial());
        Due.is(31, x.denialDetail());
        for (int pat : new int[] {-1, 3, Integer.MAX_VALUE, Integer.MIN_VALUE}) {
            Due.fails(INDEX, () -> x.gradePat(pat));
        }
        Due.is(3, x.patCount());
        Due.is(20, x.patTemperature(0));
        Due.is('c', x.gradePat(0));
        Due.is(2, x.patCount());
        Due.is(4, x.patMass(0));
        Due.is(5, x.patMass(1));
        x.run(1);
        Due.is('c', x.gradePat(1));
        Due.is('c', x.gradePat(0));
        Due.is(0, x.patCount());
        Due.is(12, x.gradedMass());
        Due.is(38, x.mass());
        StoneChurn y = new StoneChurn();
        y.load(20);
        phase(y, 'r', 1, 1);
        y.press(20);
        Due.is('e', y.gradePat(0));
        Due.is(0, y.mass());
        // 30 degrees are cool, 31 are not
        StoneChurn z = new StoneChurn();
        z.load(20);
        phase(z, 'h', 4, 1);
        phase(z, 'c', 1, 1);
        z.press(1);
        Due.is(30, z.patTemperature(0));
        Due.is('e', z.gradePat(0));
    }

    /** A pat of a smoothness without cracks gets the grade that its firmness earns. */
    private static void grades() {
        Due.promise("24");
        String due = "eddccbbaa";
        int[] smoothness = {19, 20, 39, 40, 59, 60, 79, 80, 100};
        for (int i = 0; i < smoothness.length; i++) {
            StoneChurn x = new StoneChurn();
            x.load(10);
            phase(x, 'h', 5, 2);
            if (smoothness[i] >= 5) {
                phase(x, 't', smoothness[i] / 5, 5);
            }
            if (smoothness[i] % 5 > 0) {
                phase(x, 't', 1, smoothness[i] % 5);
            }
            x.press(10);
            x.run(10);
            Due.is(smoothness[i], x.firmness(0));
            Due.is(due.charAt(i), x.gradePat(0));
            Due.is(1, x.gradedCount(due.charAt(i)));
        }
        StoneChurn y = new StoneChurn();
        y.load(10);
        phase(y, 'h', 10, 5);
        y.press(1);
        y.run(40);
        Due.is(-15, y.firmness(0));
        Due.is('e', y.gradePat(0));
    }

    private static void crush() {
        Due.promise("25");
        StoneChurn x = new StoneChurn();
        Due.fails(INDEX, () -> x.crush(0));
        x.load(100);
        phase(x, 'h', 10, 2);
        phase(x, 't', 10, 2);
        x.press(20);
        x.press(10);
        x.press(15);
        Due.is(55, x.mass());
        for (int pat : new int[] {-1, 3, Integer.MAX_VALUE, Integer.MIN_VALUE}) {
            Due.fails(INDEX, () -> x.crush(pat));
        }
        // (80 * 55 + 20 * 10) / 65 = 4600 / 65 = 70.8; 20 * 55 / 65 = 16.9; the pat is still hot
        Due.is(65, x.crush(1));
        Due.is(70, x.temperature());
        Due.is(16, x.smoothness());
        Due.is(2, x.patCount());
        Due.is(20, x.patMass(0));
        Due.is(15, x.patMass(1));
        Due.is(100, x.loadedMass());
        Due.is(0, x.gradedMass());
        x.load(20);
        Due.is(85, x.mass());
        Due.is(100, x.crush(1));
        Due.fails(DENIED, () -> x.crush(0));
        Due.is(1, x.denial());
        Due.is(100, x.denialDetail());
        Due.fails(INDEX, () -> x.crush(1));
        Due.is(1, x.patCount());
        Due.is(100, x.mass());
        x.press(19);
        Due.fails(DENIED, () -> x.crush(0));
        Due.is(100, x.crush(1));
    }

    private static void readings() {
        StoneChurn x = new StoneChurn();
        Due.promise("26");
        Due.is(0, x.patCount());
        x.load(60);
        phase(x, 'h', 15, 3);
        x.press(7);
        x.run(1);
        x.press(20);
        Due.is(2, x.patCount());
        Due.promise("27");
        Due.is(7, x.patMass(0));
        Due.is(20, x.patMass(1));
        Due.promise("28");
        Due.is(150, x.patTemperature(0));
        Due.is(155, x.patTemperature(1));
        for (int pat : NO_INDICES) {
            Due.promise("27");
            Due.fails(INDEX, () -> x.patMass(pat));
            Due.promise("28");
            Due.fails(INDEX, () -> x.patTemperature(pat));
            Due.promise("29");
            Due.fails(INDEX, () -> x.cracks(pat));
            Due.promise("30");
            Due.fails(INDEX, () -> x.firmness(pat));
            Due.promise("31");
            Due.fails(INDEX, () -> x.isCool(pat));
            Due.promise("32");
            Due.fails(INDEX, () -> x.minutesUntilCool(pat));
            Due.promise("33");
            Due.fails(INDEX, () -> x.minutesUntilCoolByDivision(pat));
        }
        Due.promise("26");
        x.crush(0);
        Due.is(1, x.patCount());
        Due.fails(INDEX, () -> x.patMass(1));
        Due.is(20, x.patMass(0));
    }

    private static void cracksAndFirmness() {
        StoneChurn x = new StoneChurn();
        x.load(100);
        phase(x, 'h', 5, 5);
        phase(x, 't', 11, 5);
        phase(x, 'h', 1, 1);
        phase(x, 'h', 1, 1);
        phase(x, 'c', 3, 1);
        phase(x, 'c', 1, 1);
        phase(x, 'h', 1, 1);
        Due.is(96, x.temperature());
        phase(x, 'c', 1, 1);
        phase(x, 'h', 2, 1);
        Due.is(100, x.temperature());
        x.press(1);
        phase(x, 'h', 1, 1);
        phase(x, 'c', 1, 1);
        Due.is(101, x.temperature());
        x.press(1);
        phase(x, 'h', 10, 5);
        phase(x, 't', 9, 1);
        x.press(1);
        phase(x, 't', 1, 1);
        x.press(1);
        phase(x, 't', 20, 5);
        x.press(1);
        Due.promise("29");
        int[] dueCracks = {0, 1, 1, 2, 10};
        for (int i = 0; i < dueCracks.length; i++) {
            Due.is(dueCracks[i], x.cracks(i));
        }
        Due.promise("30");
        int[] dueFirmness = {55, 40, 40, 25, -95};
        for (int i = 0; i < dueFirmness.length; i++) {
            Due.is(dueFirmness[i], x.firmness(i));
        }
        x.run(40);
        Due.promise("29");
        Due.is(10, x.cracks(4));
        Due.promise("30");
        Due.is(-95, x.firmness(4));
    }

    private static void cooling() {
        StoneChurn x = new StoneChurn();
        x.load(100);
        x.press(1);
        phase(x, 'c', 1, 1);
        x.press(1);
        phase(x, 'h', 4, 1);
        x.press(1);
        phase(x, 'h', 1, 1);
        phase(x, 'c', 1, 1);
        x.press(1);
        phase(x, 'h', 1, 2);
        phase(x, 'c', 1, 1);
        x.press(1);
        phase(x, 'h', 30, 5);
        x.press(1);
        coolingIs(x, 0, 20, true, 0);
        coolingIs(x, 1, 18, true, 0);
        coolingIs(x, 2, 20, true, 0);
        coolingIs(x, 5, 200, false, 34);
        x.press(1);
        x.run(33);
        coolingIs(x, 6, 35, false, 1);
        x.run(1);
        coolingIs(x, 6, 30, true, 0);
        x.run(1);
        coolingIs(x, 6, 25, true, 0);
        x.run(1);
        coolingIs(x, 6, 20, true, 0);
        x.run(1);
        coolingIs(x, 6, 20, true, 0);
        coolingIs(x, 1, 18, true, 0);
        // every temperature from 21 to 60, by heating by 3 and resting by 1
        for (int degrees = 21; degrees <= 60; degrees++) {
            StoneChurn y = new StoneChurn();
            y.load(10);
            phase(y, 'h', (degrees - 18) / 3, 1);
            if (y.temperature() > degrees) {
                phase(y, 'r', y.temperature() - degrees, 1);
            }
            y.press(5);
            coolingIs(y, 0, degrees, degrees <= 30, degrees <= 30 ? 0 : (degrees - 26) / 5);
            y.run(1);
            Due.promise("28");
            Due.is(Math.max(20, degrees - 5), y.patTemperature(0));
        }
    }

    private static void coolingIs(StoneChurn x, int pat, int temperature, boolean cool, int minutes) {
        Due.promise("28");
        Due.is(temperature, x.patTemperature(pat));
        Due.promise("31");
        Due.is(cool, x.isCool(pat));
        Due.promise("32");
        Due.is(minutes, x.minutesUntilCool(pat));
        Due.promise("33");
        Due.is(minutes, x.minutesUntilCoolByDivision(pat));
    }

    private static void patByFirmness() {
        Due.promise("34");
        StoneChurn x = new StoneChurn();
        Due.fails(NONE, () -> x.patByFirmness(0));
        x.load(100);
        phase(x, 'h', 5, 4);
        x.press(5);
        x.press(7);
        phase(x, 't', 2, 5);
        x.press(3);
        x.press(5);
        x.press(3);
        phase(x, 't', 1, 1);
        x.press(1);
        phase(x, 'h', 10, 1);
        x.press(20);
        // firmness, mass: 0, 5; 0, 7; 10, 3; 10, 5; 10, 3; 11, 1; 11 - 15, 20
        int[] due = {5, 3, 2, 4, 1, 0, 6};
        for (int rank = 0; rank < due.length; rank++) {
            Due.is(due[rank], x.patByFirmness(rank));
        }
        for (int rank : new int[] {-1, 7, Integer.MAX_VALUE, Integer.MIN_VALUE}) {
            Due.fails(NONE, () -> x.patByFirmness(rank));
        }
        x.crush(5);
        Due.is(3, x.patByFirmness(0));
        Due.is(5, x.patByFirmness(5));
        Due.fails(NONE, () -> x.patByFirmness(6));
    }

    private static void nextCool() {
        Due.promise("35");
        StoneChurn x = new StoneChurn();
        Due.fails(INDEX, () -> x.nextCool(0));
        x.load(100);
        phase(x, 'h', 5, 1);
        x.press(1);
        phase(x, 'h', 10, 5);
        x.press(1);
        phase(x, 'c', 20, 5);
        x.press(1);
        phase(x, 'h', 10, 5);
        x.press(1);
        Due.is(0, x.nextCool(0));
        Due.is(2, x.nextCool(1));
        Due.is(2, x.nextCool(2));
        Due.fails(NONE, () -> x.nextCool(3));
        for (int pat : new int[] {-1, 4, Integer.MAX_VALUE, Integer.MIN_VALUE}) {
            Due.fails(INDEX, () -> x.nextCool(pat));
        }
        x.run(40);
        Due.is(3, x.nextCool(3));
        Due.is(1, x.nextCool(1));
    }

    /** Twelve pats cool, are told apart, and leave the table from its first, last and middle place. */
    private static void fullTable() {
        StoneChurn x = new StoneChurn();
        x.load(100);
        phase(x, 'h', 6, 1);
        phase(x, 'h', 1, 3);
        for (int i = 0; i < 12; i++) {
            x.press(12 - i);
        }
        x.run(2);
        Due.promise("28");
        Due.is(37, x.patTemperature(0));
        Due.is(37, x.patTemperature(11));
        Due.promise("35");
        Due.fails(NONE, () -> x.nextCool(0));
        x.run(2);
        Due.is(11, x.nextCool(11));
        Due.promise("34");
        Due.is(11, x.patByFirmness(11));
        Due.promise("24");
        Due.is('e', x.gradePat(11));
        Due.is(11, x.patCount());
        Due.promise("25");
        x.press(1);
        x.crush(0);
        Due.is(11, x.patMass(0));
        Due.is(1, x.patMass(10));
        x.press(1);
        x.crush(5);
        Due.is(7, x.patMass(4));
        Due.is(5, x.patMass(5));
        Due.is(11, x.patCount());
    }
}
