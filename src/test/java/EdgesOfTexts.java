import java.util.NoSuchElementException;

/** The edges of texts and output lines: 'Texts' under 'Terms', and promises 42 to 47. */
final class EdgesOfTexts {
    private static final Class<IllegalArgumentException> ARGUMENT = IllegalArgumentException.class;
    private static final Class<IndexOutOfBoundsException> INDEX = IndexOutOfBoundsException.class;
    private static final Class<IllegalStateException> STATE = IllegalStateException.class;
    private static final Class<NoSuchElementException> NONE = NoSuchElementException.class;
    private static final String DIGITS = "0123456789";
    private static final String[] NUMBER_WORDS = {"load ", "run ", "press ", "grade ", "crush "};
    private static final String[] WORDS = {"phase ", "cut ", "load ", "start", "stop", "run ", "press ", "grade ",
        "crush "};
    /** Eleven commands in 60 characters, the most that can be executed. */
    private static final String ELEVEN = "start;stop;start;stop;start;stop;start;stop;start;stop;start";

    private EdgesOfTexts() {
    }

    static void test() {
        grammar();
        feedAndExecute();
        lines();
    }

    private static void grammar() {
        Edges.of("Terms", "The text buffer holds at most 60 characters.", EdgesOfTexts::sixtyCharacters);
        Edges.of("Terms", "a space in a terminal is exactly one space", EdgesOfTexts::oneSpace);
        Edges.of("Terms", "text: command { \";\" command }", EdgesOfTexts::commandsAndSemicolons);
        Edges.of("Terms", "\"phase \" kind \" \" number \" \" digit", EdgesOfTexts::phaseCommand);
        Edges.of("Terms", "\"cut \" digit", EdgesOfTexts::cutCommand);
        Edges.of("Terms", "number: one to three digits", EdgesOfTexts::numbers);
        Edges.of("Terms", "kind: \"h\" | \"c\" | \"t\" | \"r\"", EdgesOfTexts::kinds);
        Edges.of("Terms", "The commands correspond to the methods addPhase, removePhase, load, start, stop, run, press,"
                + " gradePat and crush, with the parameters in the same order.", EdgesOfTexts::correspondence);
        Edges.of("Terms", "The fault position of a text is the index of the first character that cannot continue any"
                + " such text", EdgesOfTexts::firstWrongCharacter);
        Edges.of("Terms", "or the length of the text if it ends too early.", EdgesOfTexts::tooEarlyEnd);
    }

    private static void feedAndExecute() {
        Edges.of("42", "- `character`: any character", EdgesOfTexts::anyCharacter);
        Edges.of("42", "Returns the length of the buffer afterwards.", EdgesOfTexts::lengthAfterwards);
        Edges.of("42", "Throws `IllegalStateException` if the buffer has 60 characters", EdgesOfTexts::fullBuffer);
        Edges.of("43", "executes its commands in their order, either all of them or none.", EdgesOfTexts::allOrNone);
        Edges.of("43", "The buffer is empty afterwards, even if an exception is thrown.", EdgesOfTexts::emptyBuffer);
        Edges.of("43", "Returns the number of commands.", EdgesOfTexts::numberOfCommands);
        Edges.of("43", "Throws `IllegalArgumentException` if the buffer does not match the grammar; the fault position"
                + " is kept", EdgesOfTexts::noMatch);
        Edges.of("43", "Throws `UnsupportedOperationException` if denied: 7", EdgesOfTexts::commandDenied);
        Edges.of("44", "Returns the fault position that was kept last.", EdgesOfTexts::lastFault);
        Edges.of("44", "Throws `NoSuchElementException` if none was kept yet", EdgesOfTexts::noFault);
    }

    private static void lines() {
        Edges.of("45", "Writes the cycle as the output line, which replaces the previous one",
                EdgesOfTexts::cycleReplacesLine);
        Edges.of("45", "for each phase its kind, its minutes, \":\" and its level, with a space between two phases",
                EdgesOfTexts::cycleLine);
        Edges.of("45", "\"*\" after the present phase.", EdgesOfTexts::star);
        Edges.of("45", "The line of a cycle without phases is empty.", EdgesOfTexts::emptyCycleLine);
        Edges.of("45", "Example: \"h10:3 t20:1* r5:2\".", EdgesOfTexts::cycleExample);
        Edges.of("45", "Returns the length of the line.", EdgesOfTexts::cycleLineLength);
        Edges.of("46", "Writes a pat as the output line, which replaces the previous one",
                EdgesOfTexts::patReplacesLine);
        Edges.of("46", "its mass, \"@\" and its temperature, \"#\" and its smoothness, and \"/\" for each crack.",
                EdgesOfTexts::patLine);
        Edges.of("46", "Example: \"12@85#40//\".", EdgesOfTexts::patExample);
        Edges.of("46", "- `pat`: the index of the pat", EdgesOfTexts::anyPat);
        Edges.of("46", "Throws `IndexOutOfBoundsException` if there is no such pat", EdgesOfTexts::noSuchPat);
        Edges.of("47", "Returns a character of the output line, which is initially empty.", EdgesOfTexts::emptyLine);
        Edges.of("47", "- `index`: the index, from 0", EdgesOfTexts::firstAndLast);
        Edges.of("47", "Throws `IndexOutOfBoundsException` if there is no such index", EdgesOfTexts::noSuchIndex);
    }

    private static void fault(String text, int due) {
        StoneChurn x = new StoneChurn();
        Due.fails(ARGUMENT, () -> Due.execute(x, text));
        Due.is(due, Due.outcome(x::faultPosition));
        Due.fails(NONE, () -> x.denial());
    }

    /** The text matches the grammar, whether its commands fail or not. */
    private static void matches(String text) {
        StoneChurn x = new StoneChurn();
        Object answer = Due.outcome(() -> Due.execute(x, text));
        Due.is(true, answer instanceof Integer || answer.equals("UnsupportedOperationException"));
        Due.fails(NONE, () -> x.faultPosition());
    }

    // ---- the grammar

    private static void sixtyCharacters() {
        Due.is(60, ELEVEN.length());
        StoneChurn x = new StoneChurn();
        x.addPhase('h', 1, 1);
        Due.feed(x, ELEVEN);
        Due.fails(STATE, () -> x.feed(';'));
        Due.is(11, x.execute());
        Due.is(true, x.isRunning());
        // the last of them counts, and the one that was refused does not
        StoneChurn y = new StoneChurn();
        Due.feed(y, "run 240;run 240;run 240;run 240;run 240;run 240;run 240;run ");
        Due.fails(STATE, () -> y.feed('1'));
        Due.fails(ARGUMENT, () -> y.execute());
        Due.is(60, y.faultPosition());
        Due.is(8, Due.execute(y, "run 24;run 240;run 240;run 240;run 240;run 240;run 240;run 9"));
        Due.is(24 + 6 * 240 + 9, y.minute());
    }

    private static void oneSpace() {
        fault("phaseh 1 1", 5);
        fault("phase  h 1 1", 6);
        fault("phase h  1 1", 8);
        fault("phase h1 1", 7);
        fault("phase h 1  1", 10);
        fault("phase h 11", 10);
        fault("cut0", 3);
        fault("cut  0", 4);
        fault("load1", 4);
        fault("load  1", 5);
        fault("run\t1", 3);
        fault("run" + (char) 160 + "1", 3);
        fault("press  1", 6);
        fault("grade  1", 6);
        fault("crush  1", 6);
        fault(" start", 0);
        fault("start ", 5);
        fault("start ;stop", 5);
        fault("start; stop", 6);
        fault("run 1 ", 5);
        fault("run 1 ;stop", 5);
        matches("run 1");
        matches("phase h 1 1");
    }

    private static void commandsAndSemicolons() {
        matches("stop");
        matches("stop;stop");
        // 12 commands in 59 characters
        matches("stop;stop;stop;stop;stop;stop;stop;stop;stop;stop;stop;stop");
        fault("", 0);
        fault(";", 0);
        fault(";stop", 0);
        fault("stop;", 5);
        fault("stop;;", 5);
        fault("stop;;stop", 5);
        fault("stop,stop", 4);
        fault("stopstop", 4);
        fault("stop;stop;stop;stop;stop;stop;stop;stop;stop;stop;stop;stop;", 60);
    }

    private static void phaseCommand() {
        matches("phase h 0 0");
        matches("phase r 999 9");
        matches("phase t 007 9;phase c 12 0");
        fault("phase", 5);
        fault("phase ", 6);
        fault("phase h", 7);
        fault("phase h ", 8);
        fault("phase h 1", 9);
        fault("phase h 1 ", 10);
        fault("phase h 1 12", 11);
        fault("phase h 1 1 1", 11);
        fault("phase 1 1 h", 6);
        fault("phase h 1;", 9);
    }

    private static void cutCommand() {
        matches("cut 0");
        matches("cut 9");
        fault("cut", 3);
        fault("cut ", 4);
        fault("cut 00", 5);
        fault("cut 10", 5);
        fault("cut -1", 4);
        fault("cut h", 4);
    }

    private static void numbers() {
        for (String word : NUMBER_WORDS) {
            fault(word, word.length());
            fault(word + ";", word.length());
            matches(word + "0");
            matches(word + "99");
            matches(word + "000");
            matches(word + "999");
            fault(word + "0000", word.length() + 3);
            fault(word + "1234", word.length() + 3);
            fault(word + "12a", word.length() + 2);
        }
        matches("phase h 123 1");
        fault("phase h 1234 1", 11);
        // the digits are read from left to right, and zeros before them count for nothing
        StoneChurn x = new StoneChurn();
        Due.execute(x, "run 120;run 003;run 45");
        Due.is(168, x.minute());
    }

    private static void kinds() {
        for (int kind = 0; kind < 65536; kind += kind < 512 ? 1 : 97) {
            String text = "phase " + (char) kind + " 1 1";
            if ("hctr".indexOf(kind) >= 0) {
                StoneChurn x = new StoneChurn();
                Due.is(1, Due.execute(x, text));
                Due.is((char) kind, x.phaseKind(0));
            } else {
                fault(text, 6);
            }
        }
    }

    private static void correspondence() {
        String[] texts = {"phase c 30 5", "cut 1", "load 37", "start", "run 12", "press 13", "grade 1", "crush 1",
            "stop", "phase t 1 5", "cut 0", "load 1", "run 240", "press 1", "grade 0", "crush 0"};
        for (int last = 0; last < texts.length; last++) {
            StoneChurn x = mixed();
            StoneChurn y = mixed();
            for (int i = 0; i < last; i++) {
                direct(x, texts[i].split(" "));
                direct(y, texts[i].split(" "));
            }
            Due.is(1, Due.execute(x, texts[last]));
            direct(y, texts[last].split(" "));
            Due.is(Sight.state(y), Sight.state(x));
        }
    }

    private static StoneChurn mixed() {
        StoneChurn x = new StoneChurn();
        x.load(50);
        Setup.cycle(x, "h3:2", "r2:1");
        x.press(3);
        x.press(4);
        x.press(5);
        return x;
    }

    private static void direct(StoneChurn x, String[] words) {
        int number = words.length == 2 ? Integer.parseInt(words[1]) : 0;
        switch (words[0]) {
            case "phase" -> x.addPhase(words[1].charAt(0), Integer.parseInt(words[2]), Integer.parseInt(words[3]));
            case "cut" -> x.removePhase(number);
            case "load" -> x.load(number);
            case "start" -> x.start();
            case "stop" -> x.stop();
            case "run" -> x.run(number);
            case "press" -> x.press(number);
            case "grade" -> x.gradePat(number);
            default -> x.crush(number);
        }
    }

    /** After a beginning of a text, each character but those that may follow is the fault. */
    private static void follows(String beginning, String followers) {
        for (int next = 0; next < 65536; next += next < 256 ? 1 : 4093) {
            String text = beginning + (char) next;
            if (next < 256 && followers.indexOf(next) >= 0) {
                StoneChurn x = new StoneChurn();
                Object answer = Due.outcome(() -> Due.execute(x, text));
                // either it matches or it ends too early
                Due.is(answer.equals("IllegalArgumentException") ? (Object) text.length() : "NoSuchElementException",
                        Due.outcome(x::faultPosition));
            } else {
                fault(text, beginning.length());
            }
        }
    }

    /** The characters that continue a beginning of a command's word. */
    private static String followersOf(String beginning) {
        StringBuilder followers = new StringBuilder();
        for (String word : WORDS) {
            if (word.startsWith(beginning) && word.length() > beginning.length()) {
                followers.append(word.charAt(beginning.length()));
            }
        }
        return followers.toString();
    }

    private static void firstWrongCharacter() {
        Due.is("pclssrpgc", followersOf(""));
        Due.is("ao", followersOf("st"));
        for (String before : new String[] {"", "stop;", "phase h 12 3;run 1;"}) {
            for (String word : WORDS) {
                for (int i = 0; i < word.length(); i++) {
                    follows(before + word.substring(0, i), followersOf(word.substring(0, i)));
                }
            }
            follows(before + "start", ";");
            follows(before + "stop", ";");
            follows(before + "phase ", "hctr");
            follows(before + "phase t", " ");
            follows(before + "phase t ", DIGITS);
            follows(before + "phase t 1", DIGITS + " ");
            follows(before + "phase t 12", DIGITS + " ");
            follows(before + "phase t 123", " ");
            follows(before + "phase t 12 ", DIGITS);
            follows(before + "phase t 12 9", ";");
            follows(before + "cut ", DIGITS);
            follows(before + "cut 8", ";");
        }
        for (String word : NUMBER_WORDS) {
            follows(word, DIGITS);
            follows(word + "9", DIGITS + ";");
            follows(word + "09", DIGITS + ";");
            follows(word + "109", ";");
            follows(word + "109;", followersOf(""));
        }
        // the first one counts, not a later one
        fault("xx", 0);
        fault("stop;x;y", 5);
        fault("start;run 1;cut 10;cut 11", 17);
    }

    /** Commands of 5 and 6 characters that leave just the room for a part of one more. */
    private static String before(String part) {
        int longer = (60 - part.length()) % 5;
        return "run 1;".repeat(longer) + "stop;".repeat((60 - part.length() - 6 * longer) / 5);
    }

    private static void tooEarlyEnd() {
        for (String whole : new String[] {"phase c 123 4", "cut 5", "start", "stop"}) {
            for (int end = 0; end < whole.length(); end++) {
                fault(whole.substring(0, end), end);
                fault("stop;" + whole.substring(0, end), 5 + end);
            }
            matches(whole);
            fault(whole + ";", whole.length() + 1);
        }
        for (String word : NUMBER_WORDS) {
            for (int end = 0; end <= word.length(); end++) {
                fault(word.substring(0, end), end);
                fault("stop;" + word.substring(0, end), 5 + end);
            }
            matches(word + "1");
            fault(word + "1;", word.length() + 2);
        }
        // a full buffer ends too early as well, within each part of a command
        String[] parts = {"", "p", "pres", "st", "star", "phase", "phase ", "phase h", "phase h ", "phase h 1",
            "phase h 12", "phase h 123", "phase h 123 ", "cut", "cut ", "run", "run ", "crush", "crush "};
        for (String part : parts) {
            fault(before(part) + part, 60);
        }
    }

    // ---- feed and execute

    private static void anyCharacter() {
        StoneChurn x = new StoneChurn();
        for (int character = 0; character < 65536; character++) {
            if (character % 60 == 0) {
                x = new StoneChurn();
            }
            Due.is(character % 60 + 1, x.feed((char) character));
        }
        // such a character stays what it is
        for (char character : new char[] {0, 127, 128, 255, 's' + 256, 65535}) {
            fault(character + "top", 0);
            fault("stop" + character, 4);
        }
    }

    private static void lengthAfterwards() {
        StoneChurn x = new StoneChurn();
        for (int round = 0; round < 3; round++) {
            for (int i = 1; i <= 60; i++) {
                Due.is(i, x.feed(' '));
            }
            Due.outcome(x::execute);
        }
    }

    private static void fullBuffer() {
        StoneChurn x = new StoneChurn();
        for (int i = 1; i < 60; i++) {
            x.feed("run 1;".charAt((i - 1) % 6));
        }
        Due.is(60, x.feed('7'));
        for (char character : new char[] {'0', ';', 0, 65535}) {
            Due.fails(STATE, () -> x.feed(character));
        }
        // nothing was written over
        Due.is(10, x.execute());
        Due.is(9 + 17, x.minute());
        Due.is(1, x.feed('r'));
        StoneChurn y = new StoneChurn();
        Due.feed(y, "run 12;run 1;run 1;run 1;run 1;run 1;run 1;run 1;run 1;run 1");
        Due.fails(STATE, () -> y.feed('2'));
        Due.is(10, y.execute());
        Due.is(21, y.minute());
        Due.fails(NONE, () -> y.denial());
    }

    private static void allOrNone() {
        String[] beginnings = {"load 5", "phase h 3 5", "phase h 3 5;start;run 2", "load 20;press 20", "grade 0",
            "crush 1", "cut 0", "run 240", "start"};
        String[] failures = {"load 101", "cut 9", "press 21", "grade 9", "phase h 0 1", "run 0", "run 241", "crush 99",
            "load 100"};
        for (String beginning : beginnings) {
            int index = beginning.split(";").length;
            String before = Sight.state(mixed());
            for (String failure : failures) {
                StoneChurn x = mixed();
                int changes = x.undoCount();
                Due.failed(x, index, failure.equals("load 100") ? 1 : 8, beginning + ";" + failure + ";run 1");
                Due.is(before, Sight.state(x));
                Due.is(changes, x.undoCount());
            }
            StoneChurn x = mixed();
            Due.is(index, Due.execute(x, beginning));
            Due.is(false, before.equals(Sight.state(x)));
        }
        // in their order: the second finds what the first has left
        StoneChurn y = new StoneChurn();
        Due.failed(y, 0, 5, "press 1;load 1");
        Due.is(2, Due.execute(y, "load 1;press 1"));
        Due.failed(y, 0, 3, "stop;cut 0");
        Due.failed(y, 1, 4, "run 1;start;run 0");
    }

    private static void emptyBuffer() {
        StoneChurn x = new StoneChurn();
        Due.is(1, Due.execute(x, "run 1"));
        Due.is(1, x.feed('r'));
        Due.fails(ARGUMENT, () -> x.execute());
        Due.is(1, x.feed('s'));
        Due.feed(x, "top");
        Due.fails(UnsupportedOperationException.class, () -> x.execute());
        Due.is(1, x.feed('r'));
        Due.is(1, Due.execute(x, "un 2"));
        Due.is(3, x.minute());
        // executing the empty buffer again executes nothing again
        Due.fails(ARGUMENT, () -> x.execute());
        Due.is(0, x.faultPosition());
        Due.is(3, x.minute());
        // nothing of an earlier text continues a later one
        String[] parts = {"p", "pha", "phase", "phase ", "phase h", "phase h ", "phase h 1", "phase h 1 "};
        for (String part : parts) {
            StoneChurn y = new StoneChurn();
            Due.execute(y, "phase h 1 1;cut 0");
            Due.fails(ARGUMENT, () -> Due.execute(y, part));
            Due.is(part.length(), y.faultPosition());
            Due.fails(ARGUMENT, () -> Due.execute(y, "run 123;run 123;run 123;x"));
            Due.is(1, Due.execute(y, "run 1"));
            Due.is(1, y.minute());
        }
        // nor do its numbers
        StoneChurn z = new StoneChurn();
        Due.execute(z, "phase h 9 5;run 7;run 6;run 5");
        Due.is(3, Due.execute(z, "start;stop;start"));
        Setup.looks(z, 0, 20, 0, 0);
        Due.is(18, z.minute());
        Due.is(1, z.phaseCount());
        Due.is(9, z.minutesLeft());
        // a full buffer is empty afterwards too
        Due.fails(ARGUMENT, () -> Due.execute(x, " ".repeat(60)));
        Due.is(1, x.feed(' '));
    }

    private static void numberOfCommands() {
        StoneChurn x = new StoneChurn();
        Due.is(1, Due.execute(x, "run 1"));
        Due.is(2, Due.execute(x, "run 1;run 1"));
        Due.is(10, Due.execute(x, "run 1;run 1;run 1;run 1;run 1;run 1;run 1;run 1;run 1;run 1"));
        Due.is(13, x.minute());
        x.addPhase('h', 1, 1);
        Due.is(11, Due.execute(x, ELEVEN));
        Due.is(5, x.undoCount());
    }

    private static void noMatch() {
        StoneChurn x = mixed();
        String before = Sight.state(x);
        // not even what stands before the fault is executed, and a fault counts before a command that fails
        String[] texts = {"", "load 1;", "load 1;x", "load 1; load 1", "load 0;x", "stop;load", "cut 9;cut 99"};
        int[] faults = {0, 7, 7, 7, 7, 9, 11};
        for (int i = 0; i < texts.length; i++) {
            String text = texts[i];
            Due.fails(ARGUMENT, () -> Due.execute(x, text));
            Due.is(faults[i], x.faultPosition());
            Due.is(before, Sight.state(x));
            Due.fails(NONE, () -> x.denial());
        }
        Due.is(6, x.undoCount());
    }

    private static void commandDenied() {
        StoneChurn x = new StoneChurn();
        Due.failed(x, 0, 4, "start");
        Due.failed(x, 0, 3, "stop");
        Due.failed(x, 0, 5, "press 1");
        Due.failed(x, 1, 1, "load 100;load 1");
        Due.failed(x, 2, 2, "phase h 2 1;start;cut 0");
        Due.failed(x, 2, 2, "phase h 2 1;start;start");
        Due.failed(x, 3, 2, "phase h 2 1;start;run 1;phase h 2 1");
        Due.failed(x, 5, 6, "load 2;phase h 4 1;start;run 4;press 1;grade 0");
        Due.failed(x, 3, 1, "load 9;press 9;load 99;crush 0");
        for (int i = 0; i < 8; i++) {
            x.addPhase('h', 1, 1);
        }
        Due.failed(x, 1, 1, "run 1;phase h 1 1");
        x.load(100);
        for (int i = 0; i < 11; i++) {
            x.press(1);
        }
        Due.failed(x, 1, 1, "press 1;press 1");
        Due.is(8, x.undoCount());
        Due.is(11, x.patCount());
        // with 10 commands before it
        Due.failed(x, 10, 3, "start;stop;start;stop;start;stop;start;stop;start;stop;stop");
    }

    private static void lastFault() {
        StoneChurn x = new StoneChurn();
        String[] texts = {"stop;x", "", "run 1234", "x"};
        int[] due = {5, 0, 7, 0};
        for (int i = 0; i < texts.length; i++) {
            String text = texts[i];
            Due.fails(ARGUMENT, () -> Due.execute(x, text));
            Due.is(due[i], x.faultPosition());
            Due.is(due[i], x.faultPosition());
        }
        // a text that matches keeps none
        Due.fails(ARGUMENT, () -> Due.execute(x, "run"));
        Due.execute(x, "run 1");
        Due.is(3, x.faultPosition());
        Due.failed(x, 0, 3, "stop");
        Due.is(3, x.faultPosition());
        Due.feed(x, "qqqqqqqq");
        Due.is(3, x.faultPosition());
        Due.fails(ARGUMENT, () -> x.execute());
        Due.is(0, x.faultPosition());
    }

    private static void noFault() {
        StoneChurn x = new StoneChurn();
        Due.fails(NONE, () -> x.faultPosition());
        x.feed('q');
        Due.fails(NONE, () -> x.faultPosition());
        StoneChurn y = new StoneChurn();
        Due.execute(y, "run 1");
        Due.fails(NONE, () -> y.faultPosition());
        Due.failed(y, 0, 3, "stop");
        Due.fails(NONE, () -> y.faultPosition());
        Due.fails(ARGUMENT, () -> y.execute());
        Due.is(0, y.faultPosition());
    }

    // ---- output lines

    private static void cycleReplacesLine() {
        StoneChurn x = Setup.churn(5, 200, 100, 99);
        x.press(5);
        // of a longer line, of one as long, of a shorter one, and once more
        Due.is(19, x.writePat(0));
        Setup.cycle(x, "h1:1");
        Due.is(4, x.writeCycle());
        Due.is("h1:1", Sight.line(x));
        x.removePhase(0);
        Setup.cycle(x, "c2:2");
        x.writeCycle();
        Due.is("c2:2", Sight.line(x));
        Setup.cycle(x, "t30:5");
        x.writeCycle();
        x.writeCycle();
        Due.is("c2:2 t30:5", Sight.line(x));
    }

    private static void patReplacesLine() {
        StoneChurn x = Setup.churn(25, 200, 100, 99);
        x.press(20);
        Setup.cycle(x, "h30:1", "h30:2", "h30:3", "h30:4");
        Due.is(23, x.writeCycle());
        x.writePat(0);
        Due.is("20@200#100//////////", Sight.line(x));
        x.run(40);
        x.writePat(0);
        Due.is("20@20#100//////////", Sight.line(x));
        x.press(5);
        x.writePat(1);
        x.writePat(1);
        Due.is("5@200#100//////////", Sight.line(x));
    }

    private static void cycleExample() {
        StoneChurn x = new StoneChurn();
        Setup.cycle(x, "h10:3", "t20:1", "r5:2");
        x.start();
        x.run(10);
        Due.is(17, x.writeCycle());
        Due.is("h10:3 t20:1* r5:2", Sight.line(x));
    }

    private static void patExample() {
        StoneChurn x = Setup.churn(12, 85, 40, 20);
        x.press(12);
        Due.is(10, x.writePat(0));
        Due.is("12@85#40//", Sight.line(x));
    }

    private static void cycleLine() {
        StoneChurn x = new StoneChurn();
        String due = "";
        String[] phases = {"h1:1", "c30:5", "t9:2", "r10:4", "h29:3", "c2:1", "t30:5", "r1:5"};
        for (String phase : phases) {
            Setup.cycle(x, phase);
            due += due.isEmpty() ? phase : " " + phase;
            Due.is(due, Due.line(x, x.writeCycle()));
            Due.is(due, Sight.line(x));
        }
    }

    private static void star() {
        StoneChurn x = new StoneChurn();
        Setup.cycle(x, "h1:1", "c2:1", "t1:2");
        String[] due = {"h1:1* c2:1 t1:2", "h1:1 c2:1* t1:2", "h1:1 c2:1* t1:2", "h1:1 c2:1 t1:2*", "h1:1 c2:1 t1:2"};
        Due.is(due[4], Due.line(x, x.writeCycle()));
        x.start();
        for (String line : due) {
            Due.is(line, Due.line(x, x.writeCycle()));
            x.run(1);
        }
        x.start();
        x.stop();
        Due.is(due[4], Due.line(x, x.writeCycle()));
    }

    private static void emptyCycleLine() {
        StoneChurn x = new StoneChurn();
        Due.is(0, x.writeCycle());
        Due.fails(INDEX, () -> x.lineCharacter(0));
        x.addPhase('h', 1, 1);
        Due.is(4, x.writeCycle());
        x.removePhase(0);
        Due.is(0, x.writeCycle());
        Due.fails(INDEX, () -> x.lineCharacter(0));
    }

    private static void cycleLineLength() {
        StoneChurn x = new StoneChurn();
        for (int i = 1; i <= 8; i++) {
            x.addPhase('h', 30, 5);
            Due.is(6 * i - 1, x.writeCycle());
        }
        x.start();
        Due.is(48, x.writeCycle());
        Due.is("h30:5* h30:5 h30:5 h30:5 h30:5 h30:5 h30:5 h30:5", Sight.line(x));
    }

    private static void patLine() {
        int[][] cases = {{1, 0, 0, 0}, {20, 200, 100, 99}, {9, 100, 9, 9}, {10, 101, 10, 0}, {5, 99, 99, 10}};
        String[] due = {"1@0#0", "20@200#100//////////", "9@100#9", "10@101#10/", "5@99#99/"};
        for (int i = 0; i < cases.length; i++) {
            StoneChurn x = Setup.churn(20, cases[i][1], cases[i][2], cases[i][3]);
            x.press(cases[i][0]);
            Due.is(due[i].length(), x.writePat(0));
            Due.is(due[i], Sight.line(x));
        }
    }

    private static void anyPat() {
        StoneChurn x = new StoneChurn();
        x.load(100);
        for (int i = 0; i < 12; i++) {
            x.press(i + 1);
        }
        for (int i = 11; i >= 0; i--) {
            String due = (i + 1) + "@20#0";
            Due.is(due.length(), x.writePat(i));
            Due.is(due, Sight.line(x));
        }
    }

    private static void noSuchPat() {
        StoneChurn x = new StoneChurn();
        x.load(100);
        Due.fails(INDEX, () -> x.writePat(0));
        for (int i = 0; i < 12; i++) {
            x.press(i + 1);
            int size = i + 1;
            x.writePat(i);
            Due.fails(INDEX, () -> x.writePat(size));
            Due.fails(INDEX, () -> x.writePat(-1));
            Due.is(size + "@20#0", Sight.line(x));
        }
        for (int pat : Edges.beyond(0, 11)) {
            Due.fails(INDEX, () -> x.writePat(pat));
        }
        x.crush(11);
        Due.fails(INDEX, () -> x.writePat(11));
        Due.is("12@20#0", Sight.line(x));
    }

    private static void emptyLine() {
        StoneChurn x = new StoneChurn();
        Due.fails(INDEX, () -> x.lineCharacter(0));
        // nothing but writing writes
        x.addPhase('h', 1, 1);
        x.load(1);
        x.press(1);
        x.saveSnapshot();
        x.restoreSnapshot();
        Due.fails(INDEX, () -> x.lineCharacter(0));
        x.writePat(0);
        Due.is('1', x.lineCharacter(0));
    }

    private static void firstAndLast() {
        StoneChurn x = new StoneChurn();
        Setup.cycle(x, "h10:3", "t20:1", "r5:2");
        int length = x.writeCycle();
        Due.is(16, length);
        Due.is('h', x.lineCharacter(0));
        Due.is('2', x.lineCharacter(15));
        for (int i = 0; i < length; i++) {
            Due.is("h10:3 t20:1 r5:2".charAt(i), x.lineCharacter(i));
        }
    }

    private static void noSuchIndex() {
        StoneChurn x = new StoneChurn();
        x.load(1);
        x.press(1);
        for (int i = 0; i < 8; i++) {
            x.addPhase('h', 30, 5);
            int length = x.writeCycle();
            Due.is('5', x.lineCharacter(length - 1));
            Due.fails(INDEX, () -> x.lineCharacter(length));
            Due.fails(INDEX, () -> x.lineCharacter(-1));
        }
        for (int index : Edges.beyond(0, 46)) {
            Due.fails(INDEX, () -> x.lineCharacter(index));
        }
        // a shorter line leaves nothing of a longer one
        Due.is(6, x.writePat(0));
        Due.is('0', x.lineCharacter(5));
        Due.fails(INDEX, () -> x.lineCharacter(6));
    }
}
