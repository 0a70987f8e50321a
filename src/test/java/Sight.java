/** What can be seen of a churn, as texts that are compared. */
final class Sight {
    private Sight() {
    }

    /** Everything that changes can change; the output line is written over. */
    static String state(StoneChurn x) {
        StringBuilder text = new StringBuilder(Due.line(x, x.writeCycle()));
        int pats = x.patCount();
        for (int i = 0; i < pats; i++) {
            text.append(", ").append(x.patMass(i)).append('@').append(x.patTemperature(i));
            text.append(" firm ").append(x.firmness(i)).append(" cracks ").append(x.cracks(i));
        }
        text.append(" left ").append(x.minutesLeft()).append(" finished ").append(x.finishedCycles());
        text.append(" mass ").append(x.mass()).append(" at ").append(x.temperature());
        text.append(" smooth ").append(x.smoothness()).append(" stress ").append(x.stress());
        text.append(" minute ").append(x.minute()).append(" loaded ").append(x.loadedMass());
        text.append(" graded ").append(x.gradedMass());
        for (char grade = 'a'; grade <= 'e'; grade++) {
            text.append(' ').append(x.gradedCount(grade));
        }
        return text.toString();
    }

    static String line(StoneChurn x) {
        StringBuilder text = new StringBuilder();
        for (int i = 0; i < 60; i++) {
            int index = i;
            Object sign = Due.outcome(() -> x.lineCharacter(index));
            if (!(sign instanceof Character)) {
                break;
            }
            text.append(sign);
        }
        return text.toString();
    }

    static String denial(StoneChurn x) {
        return Due.outcome(x::denial) + " " + Due.outcome(x::denialDetail) + " " + Due.outcome(x::denialCause);
    }

    /**
     * Everything but the latest denial: also the line, the fault position, the buffer, what can be
     * undone and the snapshot. The churn is used up by it, for the buffer is seen by executing it.
     */
    static String whole(StoneChurn x) {
        StringBuilder text = new StringBuilder("line ").append(line(x));
        text.append("; fault ").append(Due.outcome(x::faultPosition));
        text.append("; ").append(state(x)).append("; undo ").append(x.undoCount());
        text.append("; buffer ").append(Due.outcome(x::execute)).append(brief(x));
        text.append("; back ").append(Due.outcome(x::undo)).append(brief(x));
        text.append("; back ").append(Due.outcome(x::undo)).append(brief(x));
        text.append("; snapshot ").append(Due.outcome(x::restoreSnapshot)).append(brief(x));
        return text.toString();
    }

    private static String brief(StoneChurn x) {
        return " (" + x.phaseCount() + " phases, " + x.patCount() + " pats, mass " + x.mass() + ", " + x.temperature()
                + " degrees, left " + x.minutesLeftByPhases() + ", minute " + x.minute() + ")";
    }
}
