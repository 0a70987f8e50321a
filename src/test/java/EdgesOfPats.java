import java.util.NoSuchElementException;

/** The edges of promises 23 to 35. */
final class EdgesOfPats {
    private static final Class<IllegalArgumentException> ARGUMENT = IllegalArgumentException.class;
    private static final Class<IndexOutOfBoundsException> INDEX = IndexOutOfBoundsException.class;
    private static final Class<NoSuchElementException> NONE = NoSuchElementException.class;
    private static final String NO_SUCH_PAT = "Throws `IndexOutOfBoundsException` if there is no such pat";
    private static final String INDEX_OF_PAT = "- `pat`: the index of the pat";

    /** A call on a pat. */
    private interface PatCall {
        Object answer(StoneChurn x, int pat);
    }

    private EdgesOfPats() {
    }

    static void test() {
        press();
        gradeAndCrush();
        readings();
        cooling();
        Edges.of("34", "by firmness in descending order, then by mass in descending order, then by index in ascending"
                + " order.", EdgesOfPats::ties);
        Edges.of("34", "- `rank`: the rank, from 0", EdgesOfPats::ranks);
        Edges.of("34", "Throws `NoSuchElementException` if there is no such rank", EdgesOfPats::noSuchRank);
        Edges.of("35", "Returns the first pat from an index on that is cool.", EdgesOfPats::firstCool);
        Edges.of("35", "- `pat`: the index from which the search begins", EdgesOfPats::searchBegins);
        Edges.of("35", NO_SUCH_PAT, () -> noSuchPat((x, pat) -> x.nextCool(pat)));
        Edges.of("35", "Throws `NoSuchElementException` if none of them is cool", EdgesOfPats::noneIsCool);
    }

    private static void press() {
        Edges.of("23", "- `mass`: the mass, 1 to 20", EdgesOfPats::masses);
        Edges.of("23", "Returns the index of the pat.", EdgesOfPats::indexOfPat);
        Edges.of("23", "Throws `IllegalArgumentException` if the mass is out of range", EdgesOfPats::pressBeyond);
        Edges.of("23", "Throws `UnsupportedOperationException` if denied: 5, 1 (12 pats)", EdgesOfPats::pressDenied);
    }

    private static void gradeAndCrush() {
        Edges.of("24", "Grades a pat, which leaves the table.", EdgesOfPats::gradedPatLeaves);
        Edges.of("24", INDEX_OF_PAT, EdgesOfPats::gradesAnyPat);
        Edges.of("24", NO_SUCH_PAT, () -> noSuchPat((x, pat) -> x.gradePat(pat)));
        Edges.of("24", "Throws `UnsupportedOperationException` if denied: 6", EdgesOfPats::gradeDenied);
        Edges.of("25", "Crushes a pat, which leaves the table; its mass is loaded into the churn like rock.",
                EdgesOfPats::crushedLikeRock);
        Edges.of("25", INDEX_OF_PAT, EdgesOfPats::crushesAnyPat);
        Edges.of("25", "Returns the mass of the rock in the churn afterwards.", EdgesOfPats::massAfterwards);
        Edges.of("25", NO_SUCH_PAT, () -> noSuchPat((x, pat) -> x.crush(pat)));
        Edges.of("25", "Throws `UnsupportedOperationException` if denied: 1 (100 kilograms)", EdgesOfPats::crushDenied);
    }

    private static void readings() {
        Edges.of("26", "Returns the number of pats on the table.", EdgesOfPats::patCount);
        Edges.of("27", INDEX_OF_PAT, EdgesOfPats::patMasses);
        Edges.of("27", NO_SUCH_PAT, () -> noSuchPat((x, pat) -> x.patMass(pat)));
        Edges.of("28", INDEX_OF_PAT, EdgesOfPats::patTemperatures);
        Edges.of("28", NO_SUCH_PAT, () -> noSuchPat((x, pat) -> x.patTemperature(pat)));
        Edges.of("29", INDEX_OF_PAT, EdgesOfPats::patCracks);
        Edges.of("29", NO_SUCH_PAT, () -> noSuchPat((x, pat) -> x.cracks(pat)));
        Edges.of("30", INDEX_OF_PAT, EdgesOfPats::patFirmness);
        Edges.of("30", "Returns the firmness, which may be negative.", EdgesOfPats::negativeFirmness);
        Edges.of("30", NO_SUCH_PAT, () -> noSuchPat((x, pat) -> x.firmness(pat)));
        Edges.of("31", INDEX_OF_PAT, EdgesOfPats::coolPats);
        Edges.of("31", NO_SUCH_PAT, () -> noSuchPat((x, pat) -> x.isCool(pat)));
    }

    private static void cooling() {
        Edges.of("32", INDEX_OF_PAT, EdgesOfPats::patMinutes);
        Edges.of("32", "Returns the number of minutes, 0 if it is cool.", EdgesOfPats::minutesUntilCool);
        Edges.of("32", NO_SUCH_PAT, () -> noSuchPat((x, pat) -> x.minutesUntilCool(pat)));
        Edges.of("33", INDEX_OF_PAT, EdgesOfPats::patMinutesByDivision);
        Edges.of("33", "Returns the same number as minutesUntilCool, found by a division.",
                EdgesOfPats::minutesByDivision);
        Edges.of("33", NO_SUCH_PAT, () -> noSuchPat((x, pat) -> x.minutesUntilCoolByDivision(pat)));
    }

    /** On a table of 0 to 12 cool pats, no index but theirs is one, and a pat that has left is none. */
    private static void noSuchPat(PatCall call) {
        for (int count = 0; count <= 12; count++) {
            StoneChurn x = new StoneChurn();
            x.load(100);
            for (int i = 0; i < count; i++) {
                x.press(i + 1);
            }
            int size = count;
            Due.fails(INDEX, () -> call.answer(x, size));
            Due.fails(INDEX, () -> call.answer(x, -1));
            for (int pat : Edges.beyond(0, 11)) {
                Due.fails(INDEX, () -> call.answer(x, pat));
            }
            Due.is(count, x.patCount());
            Due.fails(NONE, () -> x.denial());
            if (count > 0) {
                x.crush(0);
                Due.fails(INDEX, () -> call.answer(x, size - 1));
            }
        }
    }

    /** Pats of masses 1 to 12, smoothnesses 0 to 11, one crack, and 20, 20, 20, 20, 30, 40, .. 100 degrees. */
    private static StoneChurn differentPats() {
        StoneChurn x = new StoneChurn();
        x.load(100);
        Setup.bring(x, 110);
        for (int i = 0; i < 12; i++) {
            x.press(i + 1);
            Setup.phase(x, 't', 1, 1);
            x.run(1);
        }
        return x;
    }

    // ---- press

    private static void masses() {
        for (int mass = -1; mass <= 22; mass++) {
            StoneChurn x = new StoneChurn();
            x.load(100);
            int one = mass;
            boolean right = mass >= 1 && mass <= 20;
            Due.is(right ? (Object) 0 : "IllegalArgumentException", Due.outcome(() -> x.press(one)));
            Due.is(right ? 100 - one : 100, x.mass());
            Due.is(right ? (Object) one : "IndexOutOfBoundsException", Due.outcome(() -> x.patMass(0)));
        }
    }

    private static void indexOfPat() {
        StoneChurn x = new StoneChurn();
        x.load(100);
        for (int i = 0; i < 12; i++) {
            Due.is(i, x.press(1));
        }
        x.gradePat(11);
        Due.is(11, x.press(1));
        x.crush(0);
        Due.is(11, x.press(1));
        for (int i = 0; i < 12; i++) {
            x.crush(0);
        }
        Due.is(0, x.press(20));
    }

    private static void pressBeyond() {
        StoneChurn x = new StoneChurn();
        // of an empty churn, of a full one, and for a full table: it is documented first
        for (int mass : Edges.beyond(1, 20)) {
            Due.fails(ARGUMENT, () -> x.press(mass));
        }
        x.load(100);
        for (int mass : Edges.beyond(1, 20)) {
            Due.fails(ARGUMENT, () -> x.press(mass));
        }
        for (int i = 0; i < 12; i++) {
            x.press(1);
        }
        for (int mass : Edges.beyond(1, 20)) {
            Due.fails(ARGUMENT, () -> x.press(mass));
        }
        Due.is(12, x.patCount());
        Due.is(88, x.mass());
        Due.fails(NONE, () -> x.denial());
    }

    private static void pressDenied() {
        StoneChurn x = new StoneChurn();
        Due.denied(x, 5, 0, () -> x.press(1));
        x.load(19);
        Due.denied(x, 5, 19, () -> x.press(20));
        Due.is(0, x.press(19));
        Due.denied(x, 5, 0, () -> x.press(1));
        x.load(13);
        for (int i = 1; i < 12; i++) {
            Due.is(i, x.press(1));
        }
        // two kilograms are left and the table is full: denial 5 is checked before denial 1
        Due.denied(x, 1, 12, () -> x.press(1));
        Due.denied(x, 1, 12, () -> x.press(2));
        Due.denied(x, 5, 2, () -> x.press(3));
        Due.is(2, x.mass());
        Due.is(12, x.patCount());
        x.crush(11);
        Due.is(11, x.press(3));
    }

    // ---- gradePat and crush

    private static void gradedPatLeaves() {
        StoneChurn x = new StoneChurn();
        x.load(100);
        x.press(1);
        Due.is('e', x.gradePat(0));
        Due.is(0, x.patCount());
        Due.fails(INDEX, () -> x.gradePat(0));
        for (int i = 1; i <= 12; i++) {
            x.press(i);
        }
        for (int left = 11; left >= 0; left--) {
            x.gradePat(left);
            Due.is(left, x.patCount());
        }
        // the rock of a graded pat does not come back
        Due.is(21, x.mass());
        Due.is(79, x.gradedMass());
    }

    private static void gradesAnyPat() {
        StoneChurn x = Setup.churn(100, 60, 0, 0);
        for (int i = 0; i < 5; i++) {
            x.press(i + 1);
            Setup.phase(x, 't', 4, 5);
        }
        x.run(10);
        // firmness 0, 20, 40, 60, 80 and masses from 1
        Due.is('c', x.gradePat(2));
        Due.is('e', x.gradePat(0));
        Due.is('a', x.gradePat(2));
        Due.is('d', x.gradePat(0));
        Due.is('b', x.gradePat(0));
        Due.is(15, x.gradedMass());
    }

    private static void gradeDenied() {
        for (int degrees : new int[] {31, 32, 100, 200}) {
            StoneChurn x = Setup.churn(100, degrees, 0, 0);
            x.press(1);
            Due.denied(x, 6, degrees, () -> x.gradePat(0));
            Due.is(1, x.patCount());
            Due.is(0, x.gradedMass());
        }
        for (int degrees : new int[] {0, 20, 29, 30}) {
            StoneChurn x = Setup.churn(100, degrees, 0, 0);
            x.press(1);
            Due.is('e', x.gradePat(0));
        }
        // the detail is the temperature of the pat, not that of the churn or of another pat
        StoneChurn y = Setup.churn(100, 50, 0, 0);
        y.press(1);
        y.run(1);
        y.press(1);
        Setup.phase(y, 'h', 1, 5);
        Due.denied(y, 6, 40, () -> y.gradePat(0));
        Due.denied(y, 6, 45, () -> y.gradePat(1));
        y.run(2);
        Due.denied(y, 6, 35, () -> y.gradePat(1));
        y.gradePat(0);
        Due.denied(y, 6, 35, () -> y.gradePat(0));
    }

    private static void crushedLikeRock() {
        // the heat, the smoothness and the cracks of the pat are lost
        StoneChurn x = Setup.churn(40, 200, 100, 99);
        x.press(20);
        Due.is(40, x.crush(0));
        Setup.looks(x, 40, 110, 50, 99);
        Due.is(0, x.patCount());
        Due.is(40, x.loadedMass());
        Due.is(0, x.gradedMass());
        Due.is(0, x.gradedCount('e'));
        // into an empty churn
        StoneChurn y = Setup.churn(20, 200, 100, 99);
        y.press(20);
        Due.is(20, y.crush(0));
        Setup.looks(y, 20, 20, 0, 99);
        StoneChurn z = Setup.churn(20, 0, 0, 0);
        z.press(1);
        z.crush(0);
        Due.is(1, z.temperature());
    }

    private static void crushesAnyPat() {
        StoneChurn x = new StoneChurn();
        x.load(10);
        x.press(1);
        x.press(2);
        x.press(3);
        Due.is(6, x.crush(1));
        Due.is(9, x.crush(1));
        Due.is(10, x.crush(0));
    }

    private static void massAfterwards() {
        StoneChurn x = new StoneChurn();
        x.load(20);
        x.press(20);
        Due.is(20, x.crush(0));
        x.press(1);
        x.load(80);
        Due.is(99, x.mass());
        Due.is(100, x.crush(0));
    }

    private static void crushDenied() {
        StoneChurn x = new StoneChurn();
        x.load(100);
        x.press(20);
        x.press(1);
        x.load(2);
        Due.denied(x, 1, 100, () -> x.crush(0));
        x.load(18);
        Due.denied(x, 1, 100, () -> x.crush(0));
        Due.is(99, x.mass());
        Due.is(2, x.patCount());
        Due.is(100, x.crush(1));
        Due.denied(x, 1, 100, () -> x.crush(0));
        Due.is(1, x.patCount());
        x.press(20);
        Due.is(100, x.crush(0));
    }

    // ---- readings

    private static void patCount() {
        StoneChurn x = new StoneChurn();
        Due.is(0, x.patCount());
        x.load(100);
        for (int i = 1; i <= 12; i++) {
            x.press(1);
            Due.is(i, x.patCount());
        }
        Due.outcome(() -> x.press(1));
        Due.is(12, x.patCount());
        for (int i = 11; i >= 0; i--) {
            x.crush(0);
            Due.is(i, x.patCount());
        }
    }

    private static void patMasses() {
        StoneChurn x = differentPats();
        for (int i = 0; i < 12; i++) {
            Due.is(i + 1, x.patMass(i));
        }
    }

    private static void patTemperatures() {
        StoneChurn x = differentPats();
        for (int i = 0; i < 12; i++) {
            Due.is(Math.max(20, 100 - 10 * (11 - i)), x.patTemperature(i));
        }
    }

    private static void patCracks() {
        StoneChurn x = Setup.churn(100, 200, 0, 0);
        for (int i = 0; i < 12; i++) {
            x.press(1);
            Setup.phase(x, 't', 2, 5);
        }
        for (int i = 0; i < 12; i++) {
            Due.is(Math.min(9, i) + 1, x.cracks(i));
        }
    }

    private static void patFirmness() {
        StoneChurn x = differentPats();
        for (int i = 0; i < 12; i++) {
            Due.is(i - 15, x.firmness(i));
        }
    }

    private static void negativeFirmness() {
        StoneChurn x = Setup.churn(10, 100, 14, 10);
        x.press(1);
        Due.is(-1, x.firmness(0));
        Setup.phase(x, 'h', 10, 5);
        Setup.phase(x, 't', 18, 5);
        x.press(1);
        Due.is(-136, x.firmness(1));
    }

    private static void coolPats() {
        StoneChurn x = differentPats();
        for (int i = 0; i < 12; i++) {
            Due.is(i <= 4, x.isCool(i));
        }
        x.run(1);
        Due.is(false, x.isCool(5));
        x.run(1);
        Due.is(true, x.isCool(5));
        Due.is(false, x.isCool(6));
    }

    // ---- until a pat is cool

    private static int[] minutesDue() {
        int[] due = new int[12];
        for (int i = 5; i < 12; i++) {
            due[i] = 2 * (i - 4);
        }
        return due;
    }

    private static void patMinutes() {
        StoneChurn x = differentPats();
        for (int i = 0; i < 12; i++) {
            Due.is(minutesDue()[i], x.minutesUntilCool(i));
        }
    }

    private static void patMinutesByDivision() {
        StoneChurn x = differentPats();
        for (int i = 0; i < 12; i++) {
            Due.is(minutesDue()[i], x.minutesUntilCoolByDivision(i));
        }
    }

    private static int[][] untilCool() {
        return new int[][] {{0, 0}, {20, 0}, {21, 0}, {29, 0}, {30, 0}, {31, 1}, {34, 1}, {35, 1}, {36, 2}, {40, 2},
            {41, 3}, {196, 34}, {199, 34}, {200, 34}};
    }

    private static void minutesUntilCool() {
        for (int[] one : untilCool()) {
            StoneChurn x = Setup.churn(10, one[0], 0, 0);
            x.press(1);
            Due.is(one[1], x.minutesUntilCool(0));
            // a cycle that is running and ends meanwhile makes no difference, and no minute passes
            Setup.cycle(x, "h2:5");
            x.start();
            Due.is(one[1], x.minutesUntilCool(0));
            Due.is(one[0], x.patTemperature(0));
            Due.is(2, x.minutesLeft());
        }
    }

    private static void minutesByDivision() {
        for (int[] one : untilCool()) {
            StoneChurn x = Setup.churn(10, one[0], 0, 0);
            x.press(1);
            Due.is(one[1], x.minutesUntilCoolByDivision(0));
            Due.is(one[1], x.minutesUntilCool(0));
        }
    }

    // ---- patByFirmness and nextCool

    private static void ranksAre(StoneChurn x, int... due) {
        for (int rank = 0; rank < due.length; rank++) {
            Due.is(due[rank], x.patByFirmness(rank));
        }
        Due.fails(NONE, () -> x.patByFirmness(due.length));
    }

    private static void ties() {
        // equal in all but the index
        StoneChurn x = new StoneChurn();
        x.load(100);
        for (int i = 0; i < 12; i++) {
            x.press(8);
        }
        ranksAre(x, 0, 1, 2, 3, 4, 5, 6, 7, 8, 9, 10, 11);
        // equal in firmness: the greater mass goes before, whatever the index is
        StoneChurn y = new StoneChurn();
        y.load(100);
        for (int mass : new int[] {2, 20, 1, 2, 20, 19}) {
            y.press(mass);
        }
        ranksAre(y, 1, 4, 5, 0, 3, 2);
        // the greater firmness goes before, whatever the mass is: by 1, and below 0
        StoneChurn z = Setup.churn(100, 110, 15, 0);
        z.press(20);
        Setup.phase(z, 't', 1, 1);
        z.press(1);
        Setup.phase(z, 'h', 5, 5);
        Setup.phase(z, 't', 2, 5);
        z.press(20);
        Setup.phase(z, 't', 2, 5);
        z.press(1);
        Setup.phase(z, 'c', 10, 5);
        Setup.phase(z, 'h', 1, 1);
        z.press(5);
        Due.is(0, z.firmness(0));
        Due.is(1, z.firmness(1));
        Due.is(-14, z.firmness(2));
        Due.is(-29, z.firmness(3));
        Due.is(-14, z.firmness(4));
        ranksAre(z, 1, 0, 2, 4, 3);
    }

    private static void ranks() {
        StoneChurn x = differentPats();
        ranksAre(x, 11, 10, 9, 8, 7, 6, 5, 4, 3, 2, 1, 0);
        x.crush(11);
        ranksAre(x, 10, 9, 8, 7, 6, 5, 4, 3, 2, 1, 0);
        x.crush(0);
        ranksAre(x, 9, 8, 7, 6, 5, 4, 3, 2, 1, 0);
        StoneChurn y = new StoneChurn();
        ranksAre(y);
        y.load(1);
        y.press(1);
        ranksAre(y, 0);
    }

    private static void noSuchRank() {
        for (int count = 0; count <= 12; count++) {
            StoneChurn x = new StoneChurn();
            x.load(100);
            for (int i = 0; i < count; i++) {
                x.press(1);
            }
            int size = count;
            Due.fails(NONE, () -> x.patByFirmness(size));
            Due.fails(NONE, () -> x.patByFirmness(-1));
            for (int rank : Edges.beyond(0, 11)) {
                Due.fails(NONE, () -> x.patByFirmness(rank));
            }
        }
    }

    private static void firstCool() {
        StoneChurn x = Setup.churn(100, 20, 0, 0);
        x.press(1);
        Due.is(0, x.nextCool(0));
        StoneChurn y = hotAndCool();
        Due.is(0, y.nextCool(0));
        Due.is(2, y.nextCool(1));
        Due.is(2, y.nextCool(2));
        Due.is(4, y.nextCool(3));
        Due.is(4, y.nextCool(4));
    }

    /** Pats of 20, 90, 20, 45 and 30 degrees. */
    private static StoneChurn hotAndCool() {
        StoneChurn x = new StoneChurn();
        x.load(100);
        x.press(1);
        Setup.phase(x, 'h', 12, 5);
        x.press(2);
        Setup.phase(x, 'c', 17, 5);
        x.press(3);
        Setup.phase(x, 'h', 2, 5);
        x.press(4);
        Setup.phase(x, 'c', 3, 5);
        x.press(5);
        int[] degrees = {20, 90, 20, 45, 30};
        for (int i = 0; i < degrees.length; i++) {
            Due.is(degrees[i], x.patTemperature(i));
        }
        return x;
    }

    private static void searchBegins() {
        StoneChurn x = new StoneChurn();
        x.load(100);
        for (int i = 0; i < 12; i++) {
            x.press(1);
        }
        for (int i = 0; i < 12; i++) {
            Due.is(i, x.nextCool(i));
        }
        // a cool pat before the index does not count, and the search does not begin anew
        StoneChurn y = Setup.churn(100, 20, 0, 0);
        y.press(1);
        Setup.phase(y, 'h', 10, 5);
        y.press(1);
        Due.is(0, y.nextCool(0));
        Due.fails(NONE, () -> y.nextCool(1));
    }

    private static void noneIsCool() {
        StoneChurn x = Setup.churn(100, 31, 0, 0);
        for (int i = 0; i < 12; i++) {
            x.press(1);
        }
        for (int i = 0; i < 12; i++) {
            int pat = i;
            Due.fails(NONE, () -> x.nextCool(pat));
        }
        x.run(1);
        Due.is(11, x.nextCool(11));
        Due.is(0, x.nextCool(0));
        // no such pat is documented before none that is cool
        StoneChurn y = Setup.churn(100, 31, 0, 0);
        y.press(1);
        Due.fails(INDEX, () -> y.nextCool(1));
        Due.fails(NONE, () -> y.nextCool(0));
        Due.fails(NONE, () -> y.denial());
    }
}
