import java.util.NoSuchElementException;

/**
 * A controller for a batch process: a churn of rock is heated, cooled, turned and rested by the
 * phases of a cycle, and pats are pressed from it, cooled, and graded by firmness.
 */
public final class StoneChurn {
    private static final int MOST_PHASES = 8;
    private static final int MOST_MINUTES_OF_PHASE = 30;
    private static final int MOST_LEVEL = 5;
    private static final int MOST_MINUTES = 240;
    private static final int MOST_ROCK = 100;
    private static final int MOST_PATS = 12;
    private static final int MOST_PAT_MASS = 20;
    private static final int MOST_UNDO = 8;

    private static final int ROOM_TEMPERATURE = 20;
    private static final int COOL_TEMPERATURE = 30;
    private static final int PAT_COOLING = 5;
    private static final int GRADES = 5;

    /** Stands for an index, a number or a position that there is not. */
    private static final int NONE = -1;

    // What a call is judged to be: fine, denied for one of the document's reasons, or wrong in its
    // arguments. WRONG is 8 because that is the cause of a command that fails with another exception.
    private static final int FINE = 0;
    private static final int LIMIT = 1;
    private static final int RUNNING = 2;
    private static final int NOT_RUNNING = 3;
    private static final int NO_PHASES = 4;
    private static final int TOO_LITTLE = 5;
    private static final int NOT_COOL = 6;
    private static final int COMMAND_FAILED = 7;
    private static final int WRONG = 8;

    private static final int MOST_SIGNS = 60;
    /** The shortest command and its semicolon take 5 signs, so a buffer begins at most 13 commands. */
    private static final int MOST_COMMANDS = MOST_SIGNS / 5 + 1;
    private static final int MOST_DIGITS = 3;

    private static final int PHASE_WORD = 0;
    private static final int CUT_WORD = 1;
    private static final int LOAD_WORD = 2;
    private static final int START_WORD = 3;
    private static final int STOP_WORD = 4;
    private static final int RUN_WORD = 5;
    private static final int PRESS_WORD = 6;
    private static final int GRADE_WORD = 7;
    private static final int CRUSH_WORD = 8;
    private static final int WORDS = 9;

    private final Batch batch = new Batch();
    /** A copy of the batch on which forecasts and the commands of a text are tried out. */
    private final Batch trial = new Batch();
    private final Batch snapshot = new Batch();
    private boolean snapshotSaved;
    private final History history = new History();
    private final Text text = new Text();
    private int keptFault = NONE;
    private final StringBuilder line = new StringBuilder();
    private int deniedNumber;
    private int deniedDetail;
    private int deniedCause;

    /** Creates an empty churn without phases and pats. */
    public StoneChurn() {
    }

    // ---- the cycle

    /** Adds a phase to the end of the cycle and returns its index. */
    public int addPhase(char kind, int minutes, int level)
            throws IllegalArgumentException, UnsupportedOperationException {
        int verdict = batch.judgePhase(kind, minutes, level);
        requireRightNumbers(verdict);
        requireAllowed(verdict, MOST_PHASES);
        history.push(batch);
        return batch.appendPhase(kind, minutes, level);
    }

    /** Removes a phase and returns the number of phases afterwards. */
    public int removePhase(int phase) throws IndexOutOfBoundsException, UnsupportedOperationException {
        int verdict = batch.judgeCut(phase);
        requireRightIndex(verdict);
        requireAllowed(verdict, NONE);
        history.push(batch);
        return batch.cutPhase(phase);
    }

    /** Starts the cycle and returns the number of minutes of all its phases. */
    public int start() throws UnsupportedOperationException {
        requireAllowed(batch.judgeStart(), NONE);
        history.push(batch);
        return batch.startCycle();
    }

    /** Stops the cycle and returns the number of its minutes that have not taken place. */
    public int stop() throws UnsupportedOperationException {
        requireAllowed(batch.judgeStop(), NONE);
        history.push(batch);
        return batch.stopCycle();
    }

    /** Lets minutes pass and returns the number of those in which the cycle was running. */
    public int run(int minutes) throws IllegalArgumentException {
        requireRightNumbers(batch.judgeRun(minutes));
        history.push(batch);
        return batch.passMinutes(minutes);
    }

    /** Returns the number of phases. */
    public int phaseCount() {
        return batch.cycle.count;
    }

    /** Returns the kind of a phase. */
    public char phaseKind(int phase) throws IndexOutOfBoundsException {
        requirePhase(phase);
        return batch.cycle.kinds[phase];
    }

    /** Returns the number of minutes of a phase. */
    public int phaseMinutes(int phase) throws IndexOutOfBoundsException {
        requirePhase(phase);
        return batch.cycle.minutes[phase];
    }

    /** Returns whether the cycle is running. */
    public boolean isRunning() {
        return batch.cycle.isUnderWay();
    }

    /** Returns the index of the present phase. */
    public int presentPhase() throws NoSuchElementException {
        if (!batch.cycle.isUnderWay()) {
            throw new NoSuchElementException("the cycle is not running");
        }
        return batch.cycle.present;
    }

    /** Returns the number of minutes until the cycle is finished, found minute by minute. */
    public int minutesLeft() {
        trial.copyFrom(batch);
        int left = 0;
        while (left < MOST_MINUTES && trial.cycle.isUnderWay()) {
            trial.passMinute();
            left++;
        }
        return left;
    }

    /** Returns the same number as minutesLeft, computed from the minutes of the phases. */
    public int minutesLeftByPhases() {
        return batch.cycle.minutesToCome();
    }

    /** Returns the number of cycles finished so far. */
    public int finishedCycles() {
        return batch.cycle.finished;
    }

    // ---- the churn

    /** Loads rock into the churn and returns the temperature of the churn afterwards. */
    public int load(int mass) throws IllegalArgumentException, UnsupportedOperationException {
        int verdict = batch.judgeLoad(mass);
        requireRightNumbers(verdict);
        requireAllowed(verdict, MOST_ROCK);
        history.push(batch);
        return batch.loadRock(mass);
    }

    /** Returns the mass of the rock in the churn. */
    public int mass() {
        return batch.churn.mass;
    }

    /** Returns the temperature of the churn. */
    public int temperature() {
        return batch.churn.temperature;
    }

    /** Returns the smoothness of the churn. */
    public int smoothness() {
        return batch.churn.smoothness;
    }

    /** Returns the stress of the churn. */
    public int stress() {
        return batch.churn.stress;
    }

    /** Returns the temperature that the churn would have after a number of minutes. */
    public int temperatureAfter(int minutes) throws IllegalArgumentException {
        tryMinutes(minutes);
        return trial.churn.temperature;
    }

    /** Returns the smoothness that the churn would have after a number of minutes. */
    public int smoothnessAfter(int minutes) throws IllegalArgumentException {
        tryMinutes(minutes);
        return trial.churn.smoothness;
    }

    /** Returns the greatest temperature of the churn from now until the cycle is finished. */
    public int peakTemperature() {
        trial.copyFrom(batch);
        int peak = trial.churn.temperature;
        for (int i = 0; i < MOST_MINUTES && trial.cycle.isUnderWay(); i++) {
            trial.passMinute();
            peak = Math.max(peak, trial.churn.temperature);
        }
        return peak;
    }

    // ---- pats

    /** Presses a pat and returns its index. */
    public int press(int mass) throws IllegalArgumentException, UnsupportedOperationException {
        int verdict = batch.judgePress(mass);
        requireRightNumbers(verdict);
        requireAllowed(verdict, MOST_PATS);
        history.push(batch);
        return batch.pressPat(mass);
    }

    /** Grades a pat, which leaves the table, and returns the grade. */
    public char gradePat(int pat) throws IndexOutOfBoundsException, UnsupportedOperationException {
        int verdict = batch.judgeGrading(pat);
        requireRightIndex(verdict);
        requireAllowed(verdict, batch.table.temperatureOf(pat));
        history.push(batch);
        return batch.takeGrade(pat);
    }

    /** Crushes a pat back into the churn and returns the mass of the rock in it afterwards. */
    public int crush(int pat) throws IndexOutOfBoundsException, UnsupportedOperationException {
        int verdict = batch.judgeCrush(pat);
        requireRightIndex(verdict);
        requireAllowed(verdict, MOST_ROCK);
        history.push(batch);
        return batch.crushPat(pat);
    }

    /** Returns the number of pats on the table. */
    public int patCount() {
        return batch.table.count;
    }

    /** Returns the mass of a pat. */
    public int patMass(int pat) throws IndexOutOfBoundsException {
        requirePat(pat);
        return batch.table.masses[pat];
    }

    /** Returns the temperature of a pat. */
    public int patTemperature(int pat) throws IndexOutOfBoundsException {
        requirePat(pat);
        return batch.table.temperatures[pat];
    }

    /** Returns the number of cracks of a pat. */
    public int cracks(int pat) throws IndexOutOfBoundsException {
        requirePat(pat);
        return batch.table.crackCounts[pat];
    }

    /** Returns the firmness of a pat, which may be negative. */
    public int firmness(int pat) throws IndexOutOfBoundsException {
        requirePat(pat);
        return batch.table.firmnessOf(pat);
    }

    /** Returns whether a pat is cool. */
    public boolean isCool(int pat) throws IndexOutOfBoundsException {
        requirePat(pat);
        return batch.table.hasCool(pat);
    }

    /** Returns the number of minutes after which a pat is cool, found minute by minute. */
    public int minutesUntilCool(int pat) throws IndexOutOfBoundsException {
        requirePat(pat);
        trial.copyFrom(batch);
        int minutes = 0;
        while (minutes < MOST_MINUTES && !trial.table.hasCool(pat)) {
            trial.passMinute();
            minutes++;
        }
        return minutes;
    }

    /** Returns the same number as minutesUntilCool, found by a division. */
    public int minutesUntilCoolByDivision(int pat) throws IndexOutOfBoundsException {
        requirePat(pat);
        int excess = Math.max(0, batch.table.temperatures[pat] - COOL_TEMPERATURE);
        return (excess + PAT_COOLING - 1) / PAT_COOLING;
    }

    /** Returns the pat at a rank: by firmness and mass descending, then by index ascending. */
    public int patByFirmness(int rank) throws NoSuchElementException {
        int pat = batch.table.patAtRank(rank);
        if (pat == NONE) {
            throw new NoSuchElementException("there is no such rank");
        }
        return pat;
    }

    /** Returns the first pat from an index on that is cool. */
    public int nextCool(int pat) throws IndexOutOfBoundsException, NoSuchElementException {
        requirePat(pat);
        int cool = batch.table.firstCoolFrom(pat);
        if (cool == NONE) {
            throw new NoSuchElementException("none of the pats is cool");
        }
        return cool;
    }

    // ---- statistics

    /** Returns the number of minutes that have passed. */
    public int minute() {
        return batch.tally.minutes;
    }

    /** Returns the number of pats that were given a grade so far. */
    public int gradedCount(char grade) throws IllegalArgumentException {
        int place = grade - 'a';
        if (!isWithin(place, 0, GRADES - 1)) {
            throw new IllegalArgumentException("there is no such grade");
        }
        return batch.tally.gradeCounts[place];
    }

    /** Returns the mass that has been loaded so far, without crushed pats. */
    public int loadedMass() {
        return batch.tally.loaded;
    }

    /** Returns the mass of the pats that have been graded so far. */
    public int gradedMass() {
        return batch.tally.graded;
    }

    /** Returns the mean firmness of the pats on the table. */
    public double meanFirmness() throws ArithmeticException {
        int pats = batch.table.count;
        if (pats == 0) {
            throw new ArithmeticException("there are no pats");
        }
        return (double) batch.table.firmnessOfAll() / (double) pats;
    }

    /** Returns the share of pats on the table that are cool. */
    public float coolShare() throws ArithmeticException {
        int pats = batch.table.count;
        if (pats == 0) {
            throw new ArithmeticException("there are no pats");
        }
        return (float) batch.table.coolOnes() / (float) pats;
    }

    // ---- texts and output lines

    /** Appends a character to the text buffer and returns the length of the buffer afterwards. */
    public int feed(char character) throws IllegalStateException {
        if (text.isFull()) {
            throw new IllegalStateException("the text buffer is full");
        }
        text.append(character);
        return text.length;
    }

    /** Executes all commands of the text buffer, or none, and returns their number. */
    public int execute() throws IllegalArgumentException, UnsupportedOperationException {
        boolean matching = text.readCommands();
        text.clear();
        if (!matching) {
            keptFault = text.position;
            throw new IllegalArgumentException("the text does not match the grammar");
        }
        trial.copyFrom(batch);
        for (int i = 0; i < text.commandCount; i++) {
            int verdict = judgeCommand(i);
            if (verdict != FINE) {
                keepDenial(COMMAND_FAILED, i, verdict);
                throw new UnsupportedOperationException("a command failed");
            }
            carryOutCommand(i);
        }
        history.push(batch);
        batch.copyFrom(trial);
        return text.commandCount;
    }

    /** Returns the fault position that was kept last. */
    public int faultPosition() throws NoSuchElementException {
        if (keptFault == NONE) {
            throw new NoSuchElementException("no fault position was kept yet");
        }
        return keptFault;
    }

    /** Writes the cycle as the output line and returns the length of the line. */
    public int writeCycle() {
        Cycle cycle = batch.cycle;
        line.setLength(0);
        for (int i = 0; i < cycle.count; i++) {
            if (i > 0) {
                line.append(' ');
            }
            line.append(cycle.kinds[i]);
            line.append(cycle.minutes[i]);
            line.append(':');
            line.append(cycle.levels[i]);
            if (i == cycle.present) {
                line.append('*');
            }
        }
        return line.length();
    }

    /** Writes a pat as the output line and returns the length of the line. */
    public int writePat(int pat) throws IndexOutOfBoundsException {
        requirePat(pat);
        Table table = batch.table;
        line.setLength(0);
        line.append(table.masses[pat]);
        line.append('@');
        line.append(table.temperatures[pat]);
        line.append('#');
        line.append(table.smoothnesses[pat]);
        for (int i = 0; i < table.crackCounts[pat]; i++) {
            line.append('/');
        }
        return line.length();
    }

    /** Returns a character of the output line. */
    public char lineCharacter(int index) throws IndexOutOfBoundsException {
        if (index < 0 || index >= line.length()) {
            throw new IndexOutOfBoundsException("the line has no such index");
        }
        return line.charAt(index);
    }

    // ---- the latest denial

    /** Returns the number of the latest denial. */
    public int denial() throws NoSuchElementException {
        requireDenial();
        return deniedNumber;
    }

    /** Returns the detail of the latest denial. */
    public int denialDetail() throws NoSuchElementException {
        requireDenial();
        return deniedDetail;
    }

    /** Returns the number of the cause of the latest denial. */
    public int denialCause() throws NoSuchElementException {
        if (deniedCause == FINE) {
            throw new NoSuchElementException("there is no denial, or the latest has no cause");
        }
        return deniedCause;
    }

    // ---- undo and snapshots

    /** Undoes the latest change and returns the number of changes that can be undone afterwards. */
    public int undo() throws IllegalStateException {
        if (history.count == 0) {
            throw new IllegalStateException("there is no change to undo");
        }
        history.pop(batch);
        return history.count;
    }

    /** Returns the number of changes that can be undone. */
    public int undoCount() {
        return history.count;
    }

    /** Saves a snapshot, which replaces an earlier one, and returns the number of pats. */
    public int saveSnapshot() {
        snapshot.copyFrom(batch);
        snapshotSaved = true;
        return batch.table.count;
    }

    /** Restores the snapshot and returns the number of pats afterwards. */
    public int restoreSnapshot() throws IllegalStateException {
        if (!snapshotSaved) {
            throw new IllegalStateException("there is no snapshot");
        }
        batch.copyFrom(snapshot);
        history.forgetAll();
        return batch.table.count;
    }

    // ---- what the calls of the face share

    private static boolean isWithin(int number, int least, int most) {
        return number >= least && number <= most;
    }

    private void requirePhase(int phase) throws IndexOutOfBoundsException {
        if (!batch.cycle.has(phase)) {
            throw new IndexOutOfBoundsException("there is no such phase");
        }
    }

    private void requirePat(int pat) throws IndexOutOfBoundsException {
        if (!batch.table.has(pat)) {
            throw new IndexOutOfBoundsException("there is no such pat");
        }
    }

    private void requireDenial() throws NoSuchElementException {
        if (deniedNumber == FINE) {
            throw new NoSuchElementException("nothing was denied yet");
        }
    }

    private void requireRightNumbers(int verdict) throws IllegalArgumentException {
        if (verdict == WRONG) {
            throw new IllegalArgumentException("there is no such kind, or a number is out of range");
        }
    }

    private void requireRightIndex(int verdict) throws IndexOutOfBoundsException {
        if (verdict == WRONG) {
            throw new IndexOutOfBoundsException("there is no such index");
        }
    }

    /** The measure is the limit of the method, or the temperature of its pat: the batch tells the rest. */
    private void requireAllowed(int verdict, int measure) throws UnsupportedOperationException {
        if (verdict != FINE) {
            keepDenial(verdict, batch.detailOf(verdict, measure), FINE);
            throw new UnsupportedOperationException("the call is denied");
        }
    }

    private void keepDenial(int number, int detail, int cause) {
        deniedNumber = number;
        deniedDetail = detail;
        deniedCause = cause;
    }

    private void tryMinutes(int minutes) throws IllegalArgumentException {
        if (!isWithin(minutes, 0, MOST_MINUTES)) {
            throw new IllegalArgumentException("the number of minutes is out of range");
        }
        trial.copyFrom(batch);
        trial.passMinutes(minutes);
    }

    private int judgeCommand(int index) {
        int number = text.numbers[index];
        switch (text.words[index]) {
            case PHASE_WORD:
                return trial.judgePhase(text.kinds[index], number, text.levels[index]);
            case CUT_WORD:
                return trial.judgeCut(number);
            case LOAD_WORD:
                return trial.judgeLoad(number);
            case START_WORD:
                return trial.judgeStart();
            case STOP_WORD:
                return trial.judgeStop();
            case RUN_WORD:
                return trial.judgeRun(number);
            case PRESS_WORD:
                return trial.judgePress(number);
            case GRADE_WORD:
                return trial.judgeGrading(number);
            default:
                return trial.judgeCrush(number);
        }
    }

    private void carryOutCommand(int index) {
        int number = text.numbers[index];
        switch (text.words[index]) {
            case PHASE_WORD:
                trial.appendPhase(text.kinds[index], number, text.levels[index]);
                break;
            case CUT_WORD:
                trial.cutPhase(number);
                break;
            case LOAD_WORD:
                trial.loadRock(number);
                break;
            case START_WORD:
                trial.startCycle();
                break;
            case STOP_WORD:
                trial.stopCycle();
                break;
            case RUN_WORD:
                trial.passMinutes(number);
                break;
            case PRESS_WORD:
                trial.pressPat(number);
                break;
            case GRADE_WORD:
                trial.takeGrade(number);
                break;
            default:
                trial.crushPat(number);
                break;
        }
    }

    /**
     * Everything that changes can change. A judge tells whether a call may be made and changes
     * nothing; the method behind it is called only for what was judged to be fine.
     */
    private static final class Batch {
        final Cycle cycle = new Cycle();
        final Churn churn = new Churn();
        final Table table = new Table();
        final Tally tally = new Tally();

        void copyFrom(Batch other) {
            cycle.copyFrom(other.cycle);
            churn.copyFrom(other.churn);
            table.copyFrom(other.table);
            tally.copyFrom(other.tally);
        }

        int detailOf(int denied, int measure) {
            switch (denied) {
                case RUNNING:
                    return cycle.present;
                case NOT_RUNNING:
                case NO_PHASES:
                    return cycle.finished;
                case TOO_LITTLE:
                    return churn.mass;
                default:
                    return measure;
            }
        }

        int judgePhase(char kind, int minutes, int level) {
            if (!Cycle.isKind(kind) || !isWithin(minutes, 1, MOST_MINUTES_OF_PHASE)
                    || !isWithin(level, 1, MOST_LEVEL)) {
                return WRONG;
            }
            if (cycle.isUnderWay()) {
                return RUNNING;
            }
            return cycle.count < MOST_PHASES ? FINE : LIMIT;
        }

        int appendPhase(char kind, int minutes, int level) {
            cycle.append(kind, minutes, level);
            return cycle.count - 1;
        }

        int judgeCut(int phase) {
            if (!cycle.has(phase)) {
                return WRONG;
            }
            return cycle.isUnderWay() ? RUNNING : FINE;
        }

        int cutPhase(int phase) {
            cycle.remove(phase);
            return cycle.count;
        }

        int judgeStart() {
            if (cycle.isUnderWay()) {
                return RUNNING;
            }
            return cycle.count == 0 ? NO_PHASES : FINE;
        }

        int startCycle() {
            cycle.begin();
            return cycle.minutesToCome();
        }

        int judgeStop() {
            return cycle.isUnderWay() ? FINE : NOT_RUNNING;
        }

        int stopCycle() {
            int left = cycle.minutesToCome();
            cycle.end();
            return left;
        }

        int judgeRun(int minutes) {
            return isWithin(minutes, 1, MOST_MINUTES) ? FINE : WRONG;
        }

        int passMinutes(int minutes) {
            int runningOnes = 0;
            for (int i = 0; i < minutes; i++) {
                if (cycle.isUnderWay()) {
                    runningOnes++;
                }
                passMinute();
            }
            return runningOnes;
        }

        void passMinute() {
            if (cycle.isUnderWay()) {
                int phase = cycle.present;
                churn.change(cycle.kinds[phase], cycle.levels[phase]);
                cycle.advance();
            }
            table.coolDown();
            tally.minutes++;
        }

        int judgeLoad(int mass) {
            if (!isWithin(mass, 1, MOST_ROCK)) {
                return WRONG;
            }
            return churn.mass + mass > MOST_ROCK ? LIMIT : FINE;
        }

        int loadRock(int mass) {
            churn.add(mass);
            tally.loaded += mass;
            return churn.temperature;
        }

        int judgePress(int mass) {
            if (!isWithin(mass, 1, MOST_PAT_MASS)) {
                return WRONG;
            }
            if (churn.mass < mass) {
                return TOO_LITTLE;
            }
            return table.count < MOST_PATS ? FINE : LIMIT;
        }

        int pressPat(int mass) {
            table.append(mass, churn.temperature, churn.smoothness, churn.cracksOfPat());
            churn.mass -= mass;
            return table.count - 1;
        }

        int judgeGrading(int pat) {
            if (!table.has(pat)) {
                return WRONG;
            }
            return table.hasCool(pat) ? FINE : NOT_COOL;
        }

        char takeGrade(int pat) {
            int place = table.gradeOf(pat);
            tally.count(place, table.massOf(pat));
            table.remove(pat);
            return (char) ('a' + place);
        }

        int judgeCrush(int pat) {
            if (!table.has(pat)) {
                return WRONG;
            }
            return churn.mass + table.massOf(pat) > MOST_ROCK ? LIMIT : FINE;
        }

        int crushPat(int pat) {
            churn.add(table.massOf(pat));
            table.remove(pat);
            return churn.mass;
        }
    }

    /** The phases in their order, and how far the cycle has come. */
    private static final class Cycle {
        final char[] kinds = new char[MOST_PHASES];
        final int[] minutes = new int[MOST_PHASES];
        final int[] levels = new int[MOST_PHASES];
        int count;
        /** The index of the present phase, NONE while the cycle is not running. */
        int present = NONE;
        int minutesDone;
        int finished;

        static boolean isKind(char kind) {
            return kind == 'h' || kind == 'c' || kind == 't' || kind == 'r';
        }

        void copyFrom(Cycle other) {
            System.arraycopy(other.kinds, 0, kinds, 0, MOST_PHASES);
            System.arraycopy(other.minutes, 0, minutes, 0, MOST_PHASES);
            System.arraycopy(other.levels, 0, levels, 0, MOST_PHASES);
            count = other.count;
            present = other.present;
            minutesDone = other.minutesDone;
            finished = other.finished;
        }

        boolean has(int phase) {
            return phase >= 0 && phase < count;
        }

        boolean isUnderWay() {
            return has(present);
        }

        void append(char kind, int itsMinutes, int level) {
            if (count < MOST_PHASES) {
                kinds[count] = kind;
                minutes[count] = itsMinutes;
                levels[count] = level;
                count++;
            }
        }

        void remove(int phase) {
            if (has(phase)) {
                for (int i = phase; i + 1 < count; i++) {
                    kinds[i] = kinds[i + 1];
                    minutes[i] = minutes[i + 1];
                    levels[i] = levels[i + 1];
                }
                count--;
            }
        }

        void begin() {
            present = 0;
            minutesDone = 0;
        }

        void end() {
            present = NONE;
        }

        int minutesToCome() {
            if (!isUnderWay()) {
                return 0;
            }
            int sum = -minutesDone;
            for (int i = present; i < count; i++) {
                sum += minutes[i];
            }
            return sum;
        }

        /** A minute of the present phase has taken place. */
        void advance() {
            minutesDone++;
            if (!isUnderWay() || minutesDone < minutes[present]) {
                return;
            }
            present++;
            minutesDone = 0;
            if (present >= count) {
                end();
                finished++;
            }
        }
    }

    /** The load. */
    private static final class Churn {
        static final int HOTTEST = 200;
        static final int SMOOTHEST = 100;
        static final int MOST_STRESS = 99;
        static final int TURNS_FROM = 40;
        static final int TURNS_TO = 120;
        static final int CRACKS_ABOVE = 100;

        int mass;
        int temperature = ROOM_TEMPERATURE;
        int smoothness;
        int stress;

        void copyFrom(Churn other) {
            mass = other.mass;
            temperature = other.temperature;
            smoothness = other.smoothness;
            stress = other.stress;
        }

        void add(int rock) {
            int together = mass + rock;
            if (together > 0) {
                temperature = (temperature * mass + ROOM_TEMPERATURE * rock) / together;
                smoothness = smoothness * mass / together;
                mass = together;
            }
        }

        int cracksOfPat() {
            int ofHeat = temperature > CRACKS_ABOVE ? 1 : 0;
            return stress / 10 + ofHeat;
        }

        void change(char kind, int level) {
            if (kind == 'h') {
                temperature = Math.min(HOTTEST, temperature + 3 * level);
            } else if (kind == 'c') {
                temperature = Math.max(0, temperature - 2 * level);
            } else if (kind == 't') {
                turn(level);
            } else {
                rest(level);
            }
        }

        private void turn(int level) {
            if (temperature > TURNS_TO) {
                stress = Math.min(MOST_STRESS, stress + level);
            } else if (temperature >= TURNS_FROM) {
                smoothness = Math.min(SMOOTHEST, smoothness + level);
            }
        }

        private void rest(int level) {
            if (temperature > ROOM_TEMPERATURE) {
                temperature--;
            } else if (temperature < ROOM_TEMPERATURE) {
                temperature++;
            }
            stress = Math.max(0, stress - level);
        }
    }

    /** The pats in the order in which they were pressed. */
    private static final class Table {
        final int[] masses = new int[MOST_PATS];
        final int[] temperatures = new int[MOST_PATS];
        final int[] smoothnesses = new int[MOST_PATS];
        final int[] crackCounts = new int[MOST_PATS];
        int count;

        void copyFrom(Table other) {
            System.arraycopy(other.masses, 0, masses, 0, MOST_PATS);
            System.arraycopy(other.temperatures, 0, temperatures, 0, MOST_PATS);
            System.arraycopy(other.smoothnesses, 0, smoothnesses, 0, MOST_PATS);
            System.arraycopy(other.crackCounts, 0, crackCounts, 0, MOST_PATS);
            count = other.count;
        }

        boolean has(int pat) {
            return pat >= 0 && pat < count;
        }

        int massOf(int pat) {
            return has(pat) ? masses[pat] : 0;
        }

        int temperatureOf(int pat) {
            return has(pat) ? temperatures[pat] : 0;
        }

        int firmnessOf(int pat) {
            return has(pat) ? smoothnesses[pat] - 15 * crackCounts[pat] : 0;
        }

        boolean hasCool(int pat) {
            return has(pat) && temperatures[pat] <= COOL_TEMPERATURE;
        }

        /** Returns the place of the grade: 0 for 'a' to 4 for 'e'. */
        int gradeOf(int pat) {
            int firm = firmnessOf(pat);
            if (firm >= 80) {
                return 0;
            }
            if (firm >= 60) {
                return 1;
            }
            if (firm >= 40) {
                return 2;
            }
            return firm >= 20 ? 3 : 4;
        }

        void append(int mass, int temperature, int smoothness, int itsCracks) {
            if (count < MOST_PATS) {
                masses[count] = mass;
                temperatures[count] = temperature;
                smoothnesses[count] = smoothness;
                crackCounts[count] = itsCracks;
                count++;
            }
        }

        void remove(int pat) {
            if (has(pat)) {
                for (int i = pat; i + 1 < count; i++) {
                    masses[i] = masses[i + 1];
                    temperatures[i] = temperatures[i + 1];
                    smoothnesses[i] = smoothnesses[i + 1];
                    crackCounts[i] = crackCounts[i + 1];
                }
                count--;
            }
        }

        void coolDown() {
            for (int i = 0; i < count; i++) {
                if (temperatures[i] > ROOM_TEMPERATURE) {
                    temperatures[i] = Math.max(ROOM_TEMPERATURE, temperatures[i] - PAT_COOLING);
                }
            }
        }

        int firmnessOfAll() {
            int sum = 0;
            for (int i = 0; i < count; i++) {
                sum += firmnessOf(i);
            }
            return sum;
        }

        int coolOnes() {
            int sum = 0;
            for (int i = 0; i < count; i++) {
                if (hasCool(i)) {
                    sum++;
                }
            }
            return sum;
        }

        int firstCoolFrom(int pat) {
            for (int i = pat; i < count; i++) {
                if (hasCool(i)) {
                    return i;
                }
            }
            return NONE;
        }

        /** No two pats are equal in the order of ranks, so each rank has one pat. */
        int patAtRank(int rank) {
            for (int i = 0; i < count; i++) {
                if (rankOf(i) == rank) {
                    return i;
                }
            }
            return NONE;
        }

        private int rankOf(int pat) {
            int before = 0;
            for (int i = 0; i < count; i++) {
                if (goesBefore(i, pat)) {
                    before++;
                }
            }
            return before;
        }

        private boolean goesBefore(int one, int other) {
            if (firmnessOf(one) != firmnessOf(other)) {
                return firmnessOf(one) > firmnessOf(other);
            }
            if (massOf(one) != massOf(other)) {
                return massOf(one) > massOf(other);
            }
            return one < other;
        }
    }

    /** What is counted from the beginning on. */
    private static final class Tally {
        final int[] gradeCounts = new int[GRADES];
        int minutes;
        int loaded;
        int graded;

        void copyFrom(Tally other) {
            System.arraycopy(other.gradeCounts, 0, gradeCounts, 0, GRADES);
            minutes = other.minutes;
            loaded = other.loaded;
            graded = other.graded;
        }

        void count(int place, int mass) {
            if (isWithin(place, 0, GRADES - 1)) {
                gradeCounts[place]++;
                graded += mass;
            }
        }
    }

    /** The batch as it was before each of the latest changes, in a ring that is written over. */
    private static final class History {
        final Batch[] past = new Batch[MOST_UNDO];
        int next;
        int count;

        History() {
            for (int i = 0; i < MOST_UNDO; i++) {
                past[i] = new Batch();
            }
        }

        void push(Batch batch) {
            past[next].copyFrom(batch);
            next = (next + 1) % MOST_UNDO;
            count = Math.min(MOST_UNDO, count + 1);
        }

        void pop(Batch batch) {
            if (count > 0) {
                next = (next + MOST_UNDO - 1) % MOST_UNDO;
                batch.copyFrom(past[next]);
                count--;
            }
        }

        void forgetAll() {
            count = 0;
        }
    }

    /** The text buffer, and the commands that were read from it last. */
    private static final class Text {
        final char[] signs = new char[MOST_SIGNS];
        int length;
        /** The next sign to be read; after a text that does not match, its fault position. */
        int position;
        final int[] words = new int[MOST_COMMANDS];
        final char[] kinds = new char[MOST_COMMANDS];
        final int[] numbers = new int[MOST_COMMANDS];
        final int[] levels = new int[MOST_COMMANDS];
        int commandCount;

        static String spelling(int word) {
            switch (word) {
                case PHASE_WORD:
                    return "phase ";
                case CUT_WORD:
                    return "cut ";
                case LOAD_WORD:
                    return "load ";
                case START_WORD:
                    return "start";
                case STOP_WORD:
                    return "stop";
                case RUN_WORD:
                    return "run ";
                case PRESS_WORD:
                    return "press ";
                case GRADE_WORD:
                    return "grade ";
                default:
                    return "crush ";
            }
        }

        boolean isFull() {
            return length >= MOST_SIGNS;
        }

        void append(char sign) {
            if (!isFull()) {
                signs[length] = sign;
                length++;
            }
        }

        void clear() {
            length = 0;
        }

        /** Returns whether the buffer matches the grammar. */
        boolean readCommands() {
            position = 0;
            commandCount = 0;
            for (int i = 0; i < MOST_COMMANDS; i++) {
                if (!readCommand(i)) {
                    return false;
                }
                commandCount++;
                if (!readSign(';')) {
                    return position == length;
                }
            }
            return false;
        }

        private boolean readCommand(int index) {
            int word = readWord();
            words[index] = word;
            switch (word) {
                case NONE:
                    return false;
                case START_WORD:
                case STOP_WORD:
                    return true;
                case PHASE_WORD:
                    return readPhase(index);
                case CUT_WORD:
                    numbers[index] = readNumber(1);
                    return numbers[index] != NONE;
                default:
                    numbers[index] = readNumber(MOST_DIGITS);
                    return numbers[index] != NONE;
            }
        }

        private boolean readPhase(int index) {
            if (position >= length || !Cycle.isKind(signs[position])) {
                return false;
            }
            kinds[index] = signs[position];
            position++;
            if (!readSign(' ')) {
                return false;
            }
            numbers[index] = readNumber(MOST_DIGITS);
            if (numbers[index] == NONE || !readSign(' ')) {
                return false;
            }
            levels[index] = readNumber(1);
            return levels[index] != NONE;
        }

        /** If there is no word, the position becomes the first sign that continues none of them. */
        private int readWord() {
            int furthest = position;
            for (int word = 0; word < WORDS; word++) {
                int alike = signsAlike(spelling(word));
                if (alike == spelling(word).length()) {
                    position += alike;
                    return word;
                }
                furthest = Math.max(furthest, position + alike);
            }
            position = furthest;
            return NONE;
        }

        private int signsAlike(String spelling) {
            int alike = 0;
            while (alike < spelling.length() && position + alike < length
                    && signs[position + alike] == spelling.charAt(alike)) {
                alike++;
            }
            return alike;
        }

        private boolean readSign(char sign) {
            if (position < length && signs[position] == sign) {
                position++;
                return true;
            }
            return false;
        }

        private int readNumber(int mostDigits) {
            int value = NONE;
            for (int i = 0; i < mostDigits && position < length && isDigit(signs[position]); i++) {
                value = Math.max(0, value) * 10 + signs[position] - '0';
                position++;
            }
            return value;
        }

        private static boolean isDigit(char sign) {
            return sign >= '0' && sign <= '9';
        }
    }
}
