import java.util.ArrayDeque;
import java.util.ArrayList;
import java.util.Comparator;
import java.util.List;
import java.util.NoSuchElementException;
import java.util.regex.Matcher;
import java.util.regex.Pattern;

/**
 * A second program of the document, written with the Java library and in another way than the
 * class: its answers are compared with those of the class by RandomRunsTest.
 */
final class Model {
    record Phase(char kind, int minutes, int level) {
    }

    record Pat(int mass, int temperature, int smoothness, int cracks) {
        int firmness() {
            return smoothness - 15 * cracks;
        }

        Pat cooled() {
            return temperature <= 20 ? this : new Pat(mass, Math.max(20, temperature - 5), smoothness, cracks);
        }
    }

    /** Phases that wait are unrolled: one entry for each minute that is still to take place. */
    record State(List<Phase> phases, List<Integer> toCome, int finished, int mass, int temperature, int smoothness,
            int stress, List<Pat> pats, int minute, String grades, int loaded, int graded) {
    }

    static final class Denied extends UnsupportedOperationException {
        private static final long serialVersionUID = 1L;
        final int number;
        final int detail;

        Denied(int number, int detail) {
            this.number = number;
            this.detail = detail;
        }
    }

    private static final String COMMAND = "(?:phase [hctr] [0-9]{1,3} [0-9]|cut [0-9]|start|stop"
            + "|(?:load|run|press|grade|crush) [0-9]{1,3})";
    private static final Pattern TEXT = Pattern.compile(COMMAND + "(?:;" + COMMAND + ")*");

    private State s = new State(List.of(), List.of(), 0, 0, 20, 0, 0, List.of(), 0, "", 0, 0);
    private final ArrayDeque<State> past = new ArrayDeque<>();
    private State saved;
    private String buffer = "";
    private Integer fault;
    private String line = "";
    private int[] denial;

    private static void argument(boolean right) {
        if (!right) {
            throw new IllegalArgumentException();
        }
    }

    private static void index(boolean right) {
        if (!right) {
            throw new IndexOutOfBoundsException();
        }
    }

    private static void element(boolean right) {
        if (!right) {
            throw new NoSuchElementException();
        }
    }

    private static <T> List<T> without(List<T> list, int index) {
        List<T> rest = new ArrayList<>(list);
        rest.remove(index);
        return List.copyOf(rest);
    }

    private static <T> List<T> with(List<T> list, T last) {
        List<T> all = new ArrayList<>(list);
        all.add(last);
        return List.copyOf(all);
    }

    private static boolean running(State s) {
        return !s.toCome.isEmpty();
    }

    private static int present(State s) {
        return s.toCome.get(0);
    }

    private static State next(State s) {
        int t = s.temperature;
        int smooth = s.smoothness;
        int stress = s.stress;
        int finished = s.finished;
        List<Integer> toCome = s.toCome;
        if (running(s)) {
            Phase p = s.phases.get(present(s));
            int l = p.level;
            switch (p.kind) {
                case 'h' -> t = t + 3 * l > 200 ? 200 : t + 3 * l;
                case 'c' -> t = t - 2 * l < 0 ? 0 : t - 2 * l;
                case 't' -> {
                    if (t >= 40 && t <= 120) {
                        smooth = smooth + l > 100 ? 100 : smooth + l;
                    } else if (t > 120) {
                        stress = stress + l > 99 ? 99 : stress + l;
                    }
                }
                default -> {
                    t += Integer.compare(20, t);
                    stress = stress - l < 0 ? 0 : stress - l;
                }
            }
            toCome = toCome.subList(1, toCome.size());
            finished += toCome.isEmpty() ? 1 : 0;
        }
        return new State(s.phases, toCome, finished, s.mass, t, smooth, stress,
                s.pats.stream().map(Pat::cooled).toList(), s.minute + 1, s.grades, s.loaded, s.graded);
    }

    private static State filled(State s, int rock, boolean fresh, List<Pat> pats) {
        int all = s.mass + rock;
        return new State(s.phases, s.toCome, s.finished, all, (s.temperature * s.mass + 20 * rock) / all,
                s.smoothness * s.mass / all, s.stress, pats, s.minute, s.grades, s.loaded + (fresh ? rock : 0),
                s.graded);
    }

    /** The state after a command, or the exception that the command throws. */
    private static State after(State s, String name, char kind, int a, int b) {
        switch (name) {
            case "phase": {
                argument("hctr".indexOf(kind) >= 0 && a >= 1 && a <= 30 && b >= 1 && b <= 5);
                deniedIf(running(s), 2, s);
                deniedIf(s.phases.size() == 8, 1, 8);
                return phased(s, with(s.phases, new Phase(kind, a, b)), s.toCome);
            }
            case "cut": {
                index(a >= 0 && a < s.phases.size());
                deniedIf(running(s), 2, s);
                return phased(s, without(s.phases, a), s.toCome);
            }
            case "start": {
                deniedIf(running(s), 2, s);
                deniedIf(s.phases.isEmpty(), 4, s.finished);
                List<Integer> toCome = new ArrayList<>();
                for (int p = 0; p < s.phases.size(); p++) {
                    for (int i = 0; i < s.phases.get(p).minutes; i++) {
                        toCome.add(p);
                    }
                }
                return phased(s, s.phases, List.copyOf(toCome));
            }
            case "stop": {
                deniedIf(!running(s), 3, s.finished);
                return phased(s, s.phases, List.of());
            }
            case "run": {
                argument(a >= 1 && a <= 240);
                State then = s;
                for (int i = 0; i < a; i++) {
                    then = next(then);
                }
                return then;
            }
            case "load": {
                argument(a >= 1 && a <= 100);
                deniedIf(s.mass + a > 100, 1, 100);
                return filled(s, a, true, s.pats);
            }
            default:
                return afterPats(s, name, a);
        }
    }

    private static State afterPats(State s, String name, int a) {
        if (name.equals("press")) {
            argument(a >= 1 && a <= 20);
            deniedIf(s.mass < a, 5, s.mass);
            deniedIf(s.pats.size() == 12, 1, 12);
            int cracks = s.stress / 10 + (s.temperature > 100 ? 1 : 0);
            return tabled(s, s.mass - a, with(s.pats, new Pat(a, s.temperature, s.smoothness, cracks)), "", 0);
        }
        index(a >= 0 && a < s.pats.size());
        Pat pat = s.pats.get(a);
        if (name.equals("grade")) {
            deniedIf(pat.temperature > 30, 6, pat.temperature);
            return tabled(s, s.mass, without(s.pats, a), gradeOf(pat), pat.mass);
        }
        deniedIf(s.mass + pat.mass > 100, 1, 100);
        return filled(s, pat.mass, false, without(s.pats, a));
    }

    private static String gradeOf(Pat pat) {
        int f = pat.firmness();
        return f >= 80 ? "a" : f >= 60 ? "b" : f >= 40 ? "c" : f >= 20 ? "d" : "e";
    }

    private static State phased(State s, List<Phase> phases, List<Integer> toCome) {
        return new State(phases, toCome, s.finished, s.mass, s.temperature, s.smoothness, s.stress, s.pats, s.minute,
                s.grades, s.loaded, s.graded);
    }

    private static State tabled(State s, int mass, List<Pat> pats, String grade, int graded) {
        return new State(s.phases, s.toCome, s.finished, mass, s.temperature, s.smoothness, s.stress, pats, s.minute,
                s.grades + grade, s.loaded, s.graded + graded);
    }

    private static void deniedIf(boolean is, int number, int detail) {
        if (is) {
            throw new Denied(number, detail);
        }
    }

    private static void deniedIf(boolean is, int number, State s) {
        deniedIf(is, number, is ? present(s) : 0);
    }

    private void remember(State then) {
        past.addLast(s);
        if (past.size() > 8) {
            past.removeFirst();
        }
        s = then;
    }

    private void change(String name, char kind, int a, int b) {
        try {
            remember(after(s, name, kind, a, b));
        } catch (Denied e) {
            denial = new int[] {e.number, e.detail, 0};
            throw e;
        }
    }

    private Pat pat(int i) {
        index(i >= 0 && i < s.pats.size());
        return s.pats.get(i);
    }

    private Phase phase(int i) {
        index(i >= 0 && i < s.phases.size());
        return s.phases.get(i);
    }

    private State later(int minutes) {
        argument(minutes >= 0 && minutes <= 240);
        State then = s;
        for (int i = 0; i < minutes; i++) {
            then = next(then);
        }
        return then;
    }

    private int execute() {
        String text = buffer;
        buffer = "";
        if (!TEXT.matcher(text).matches()) {
            fault = faultOf(text);
            throw new IllegalArgumentException();
        }
        State then = s;
        String[] commands = text.split(";");
        for (int i = 0; i < commands.length; i++) {
            String[] words = commands[i].split(" ");
            boolean phase = words[0].equals("phase");
            try {
                char kind = phase ? words[1].charAt(0) : ' ';
                int a = words.length == 1 ? 0 : Integer.parseInt(words[phase ? 2 : 1]);
                then = after(then, words[0], kind, a, phase ? Integer.parseInt(words[3]) : 0);
            } catch (Denied e) {
                denial = new int[] {7, i, e.number};
                throw new UnsupportedOperationException();
            } catch (RuntimeException e) {
                denial = new int[] {7, i, 8};
                throw new UnsupportedOperationException();
            }
        }
        remember(then);
        return commands.length;
    }

    /** A beginning can be continued if it matches, or if the matcher ran into its end. */
    private static int faultOf(String text) {
        for (int i = 1; i <= text.length(); i++) {
            Matcher matcher = TEXT.matcher(text.substring(0, i));
            if (!matcher.matches() && !matcher.hitEnd()) {
                return i - 1;
            }
        }
        return text.length();
    }

    private int write(String text) {
        line = text;
        return line.length();
    }

    private String cycleLine() {
        StringBuilder text = new StringBuilder();
        for (int i = 0; i < s.phases.size(); i++) {
            Phase p = s.phases.get(i);
            text.append(i == 0 ? "" : " ").append(p.kind).append(p.minutes).append(":").append(p.level);
            text.append(running(s) && present(s) == i ? "*" : "");
        }
        return text.toString();
    }

    private int atRank(int rank) {
        List<Integer> order = new ArrayList<>();
        for (int i = 0; i < s.pats.size(); i++) {
            order.add(i);
        }
        // a stable sort keeps the order of indices
        order.sort(Comparator.comparingInt((Integer i) -> -s.pats.get(i).firmness())
                .thenComparingInt(i -> -s.pats.get(i).mass));
        element(rank >= 0 && rank < order.size());
        return order.get(rank);
    }

    private int nextCool(int from) {
        pat(from);
        for (int i = from; i < s.pats.size(); i++) {
            if (s.pats.get(i).temperature <= 30) {
                return i;
            }
        }
        throw new NoSuchElementException();
    }

    private int untilCool(Pat pat) {
        int minutes = 0;
        for (Pat p = pat; p.temperature > 30; p = p.cooled()) {
            minutes++;
        }
        return minutes;
    }

    private int peak() {
        int peak = s.temperature;
        for (State then = s; running(then);) {
            then = next(then);
            peak = Math.max(peak, then.temperature);
        }
        return peak;
    }

    private int latestDenial(int part) {
        element(denial != null);
        element(part != 2 || denial[2] != 0);
        return denial[part];
    }

    private int undo() {
        if (past.isEmpty()) {
            throw new IllegalStateException();
        }
        s = past.removeLast();
        return past.size();
    }

    private int restore() {
        if (saved == null) {
            throw new IllegalStateException();
        }
        s = saved;
        past.clear();
        return s.pats.size();
    }

    private int feed(char character) {
        if (buffer.length() >= 60) {
            throw new IllegalStateException();
        }
        buffer += character;
        return buffer.length();
    }

    /** Answers a call of the face by its name; c is its character, a and b are its numbers. */
    Object answer(String call, char c, int a, int b) {
        State before = s;
        switch (call) {
            case "addPhase": change("phase", c, a, b); return s.phases.size() - 1;
            case "removePhase": change("cut", c, a, b); return s.phases.size();
            case "start": change("start", c, a, b); return s.toCome.size();
            case "stop": change("stop", c, a, b); return before.toCome.size();
            case "run": change("run", c, a, b); return before.toCome.size() - s.toCome.size();
            case "phaseCount": return s.phases.size();
            case "phaseKind": return phase(a).kind;
            case "phaseMinutes": return phase(a).minutes;
            case "isRunning": return running(s);
            case "presentPhase": element(running(s)); return present(s);
            case "minutesLeft": case "minutesLeftByPhases": return s.toCome.size();
            case "finishedCycles": return s.finished;
            case "load": change("load", c, a, b); return s.temperature;
            case "mass": return s.mass;
            case "temperature": return s.temperature;
            case "smoothness": return s.smoothness;
            case "stress": return s.stress;
            case "temperatureAfter": return later(a).temperature;
            case "smoothnessAfter": return later(a).smoothness;
            case "peakTemperature": return peak();
            case "press": change("press", c, a, b); return s.pats.size() - 1;
            case "gradePat": change("grade", c, a, b); return s.grades.charAt(s.grades.length() - 1);
            case "crush": change("crush", c, a, b); return s.mass;
            default: return answerMore(call, c, a);
        }
    }

    private Object answerMore(String call, char c, int a) {
        switch (call) {
            case "patCount": return s.pats.size();
            case "patMass": return pat(a).mass;
            case "patTemperature": return pat(a).temperature;
            case "cracks": return pat(a).cracks;
            case "firmness": return pat(a).firmness();
            case "isCool": return pat(a).temperature <= 30;
            case "minutesUntilCool": case "minutesUntilCoolByDivision": return untilCool(pat(a));
            case "patByFirmness": return atRank(a);
            case "nextCool": return nextCool(a);
            case "minute": return s.minute;
            case "gradedCount": argument(c >= 'a' && c <= 'e');
                return (int) s.grades.chars().filter(grade -> grade == c).count();
            case "loadedMass": return s.loaded;
            case "gradedMass": return s.graded;
            case "meanFirmness": counted();
                return (double) s.pats.stream().mapToInt(Pat::firmness).sum() / s.pats.size();
            case "coolShare": counted();
                return (float) s.pats.stream().filter(p -> p.temperature <= 30).count() / s.pats.size();
            case "feed": return feed(c);
            case "execute": return execute();
            case "faultPosition": element(fault != null); return fault;
            case "writeCycle": return write(cycleLine());
            case "writePat": return write(pat(a).mass + "@" + pat(a).temperature + "#" + pat(a).smoothness
                    + "/".repeat(pat(a).cracks));
            case "lineCharacter": index(a >= 0 && a < line.length()); return line.charAt(a);
            case "denial": return latestDenial(0);
            case "denialDetail": return latestDenial(1);
            case "denialCause": return latestDenial(2);
            case "undo": return undo();
            case "undoCount": return past.size();
            case "saveSnapshot": saved = s; return s.pats.size();
            case "restoreSnapshot": return restore();
            default: throw new AssertionError(call);
        }
    }

    private void counted() {
        if (s.pats.isEmpty()) {
            throw new ArithmeticException();
        }
    }
}
