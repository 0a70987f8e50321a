import java.io.IOException;
import java.nio.charset.StandardCharsets;
import java.nio.file.Files;
import java.nio.file.Path;
import java.util.ArrayDeque;

/** The calls that README.md shows under 'Use': each line of its Java, with the answer that stands behind it. */
public final class ReadmeTest {
    private static final ArrayDeque<String> SHOWN = new ArrayDeque<>();
    private static final StoneChurn CHURN = new StoneChurn();

    private ReadmeTest() {
    }

    public static void main(String[] args) throws IOException {
        readJava();
        Due.promise("README.md");
        Due.is("StoneChurn churn = new StoneChurn();", SHOWN.poll());
        cycleAndPat();
        denied();
        texts();
        lines();
        undoAndSnapshot();
        Due.is(0, SHOWN.size());
        Due.end("ReadmeTest");
    }

    private static void readJava() throws IOException {
        boolean java = false;
        for (String line : Files.readAllLines(Path.of("README.md"), StandardCharsets.UTF_8)) {
            if (line.startsWith("```")) {
                java = line.equals("```java");
            } else if (java) {
                SHOWN.add(line);
            }
        }
    }

    /** The next line that is shown is the statement, and the answer behind it is what the call answers. */
    private static void shows(String statement, Due.Call call) {
        String[] shown = String.valueOf(SHOWN.poll()).split(" +// ");
        Due.is(2, shown.length);
        Due.is(shown[0], statement);
        Due.is(shown[shown.length - 1], String.valueOf(Due.outcome(call)));
    }

    private static void showsFeeding(String text) {
        shows("feed(\"" + text + "\");", () -> {
            Due.feed(CHURN, text);
            return text.length();
        });
    }

    private static void cycleAndPat() {
        shows("churn.addPhase('h', 10, 2);", () -> CHURN.addPhase('h', 10, 2));
        shows("churn.addPhase('t', 20, 4);", () -> CHURN.addPhase('t', 20, 4));
        shows("churn.load(60);", () -> CHURN.load(60));
        shows("churn.start();", () -> CHURN.start());
        shows("churn.peakTemperature();", () -> CHURN.peakTemperature());
        shows("churn.run(30);", () -> CHURN.run(30));
        shows("churn.press(12);", () -> CHURN.press(12));
        shows("churn.run(churn.minutesUntilCool(0));", () -> CHURN.run(CHURN.minutesUntilCool(0)));
        shows("churn.gradePat(0);", () -> CHURN.gradePat(0));
        shows("churn.gradedMass();", () -> CHURN.gradedMass());
    }

    private static void denied() {
        shows("churn.load(53);", () -> CHURN.load(53));
        shows("churn.denial();", () -> CHURN.denial());
        shows("churn.denialDetail();", () -> CHURN.denialDetail());
    }

    private static void texts() {
        showsFeeding("start;run 12;press 20");
        shows("churn.execute();", () -> CHURN.execute());
        showsFeeding("stop;stop");
        shows("churn.execute();", () -> CHURN.execute());
        shows("churn.denial();", () -> CHURN.denial());
        shows("churn.denialDetail();", () -> CHURN.denialDetail());
        shows("churn.denialCause();", () -> CHURN.denialCause());
        showsFeeding("run 5;stopp");
        shows("churn.execute();", () -> CHURN.execute());
        shows("churn.faultPosition();", () -> CHURN.faultPosition());
    }

    private static void lines() {
        shows("churn.writeCycle();", () -> CHURN.writeCycle());
        shows("churn.lineCharacter(0);", () -> CHURN.lineCharacter(0));
        shows("line();", () -> Sight.line(CHURN));
        shows("churn.writePat(0);", () -> CHURN.writePat(0));
        shows("line();", () -> Sight.line(CHURN));
    }

    private static void undoAndSnapshot() {
        shows("churn.saveSnapshot();", () -> CHURN.saveSnapshot());
        shows("churn.undo();", () -> CHURN.undo());
        shows("churn.isRunning();", () -> CHURN.isRunning());
        shows("churn.restoreSnapshot();", () -> CHURN.restoreSnapshot());
        shows("churn.isRunning();", () -> CHURN.isRunning());
        shows("churn.undo();", () -> CHURN.undo());
    }
}
