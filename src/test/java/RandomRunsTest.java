import java.util.Random;
import java.util.TreeMap;

/** Random runs of calls, the same ones in every build, on the class and on the Reference. */
public final class RandomRunsTest {
    private static final int RUNS = 10000, CALLS = 512;
    /** More than the dearest step takes: the text of a stage with odd numbers, each byte with its fault position. */
    private static final int DEAREST_STEP = 80;
    private static final int METHODS = 32;
    private static final int[] ODD = {-1, -2, -16, 8, 9, 49, 26, 128, 168, 169, 1001, Integer.MAX_VALUE, Integer.MIN_VALUE};

    /** What a run does most: plans and probes; texts; holding, resuming and saving, which fill the log. */
    private static final int[][] FREQUENT = {{6, 6, 7, 14, 19, 19, 20}, {7, 7, 7, 13, 14, 12}, {6, 15, 16, 17, 17, 20, 33}};

    private final Random random;
    private final StagedRollout real = new StagedRollout();
    private final Reference due = new Reference();
    private final int oddness;
    private final int mood;
    private final TreeMap<String, Integer> seen;
    private String call = "";
    /** What later calls than the 512th answer is free, so a run ends before. */
    private int callsMade = 1;

    private RandomRunsTest(int run, TreeMap<String, Integer> seen) {
        random = new Random(run);
        oddness = run % 4 == 0 ? 8 : 60;
        mood = run / 3 % FREQUENT.length;
        this.seen = seen;
        int cells = run % 3 == 0 ? 4 : run % 3 == 1 ? 8 : 1 + random.nextInt(8);
        real.begin(cells);
        due.begin(cells);
    }

    public static void main(String[] args) {
        TreeMap<String, Integer> seen = new TreeMap<>();
        int wrong = 0;
        for (int run = 0; run < RUNS && wrong < 10; run++) {
            wrong += new RandomRunsTest(run, seen).isAsDue(run) ? 0 : 1;
        }
        wrong += lacking(seen);
        if (args.length > 1) {
            seen.forEach((what, times) -> System.out.println(times + " " + what));
        }
        System.out.println(wrong == 0 ? "random runs: all answers are as due" : "random runs: " + wrong + " wrong");
        if (wrong != 0) {
            System.exit(1);
        }
    }

    /** A random run proves nothing of an answer that it never gets. */
    private static int lacking(TreeMap<String, Integer> seen) {
        int lacking = 0;
        String[] wanted = {
            "begin -12", "setLimit -12", "freeze -12", "freeze -14", "addChange -14", "addStage -11", "addStage -12",
            "addStage -13", "addStage -14", "putAfter -11", "putAfter -13", "stage -11", "stage -12", "append -12",
            "append -14", "faultPosition -15", "read -11", "read -13", "read 6", "start -11", "start -13", "hold -11",
            "hold -13", "resume -11", "resume -13", "turnBack -11", "turnBack -13", "report -11", "report -12",
            "pass -12", "change -11", "change -12", "probes -11", "probes -12", "chance -11", "has -11",
            "isFrozen -12", "forecast -11", "forecast -15", "entry -11", "entry -12", "entry -15", "count -11",
            "count -12", "save -11", "restore -11", "restore -13", "reason 0", "reason 1", "reason 2", "reason 3",
            "reason 4", "reason 5", "reason 6", "reason 7", "reason 8", "is 0", "is 1", "is 2", "is 3", "is 4",
            "is 5", "event 1", "event 2", "event 3", "event 4", "event 5", "event 6", "event 7",
        };
        for (String what : wanted) {
            if (!seen.containsKey(what)) {
                System.out.println("no random run met: " + what);
                lacking++;
            }
        }
        return lacking;
    }

    private boolean isAsDue(int run) {
        for (int i = 0; callsMade + DEAREST_STEP <= CALLS; i++) {
            int method = pickMethod();
            long[] answers = both(method);
            callsMade += 2;
            seen.merge(call.substring(0, call.indexOf('(')) + " " + answers[0], 1, Integer::sum);
            noteStates();
            if (answers[0] != answers[1]) {
                System.out.println("run " + run + ", call " + i + ": " + call + " answered " + answers[0]
                    + ", due is " + answers[1] + "; the text is " + due.text);
                return false;
            }
            if (real.checksum() != due.checksum()) {
                System.out.println("run " + run + ", call " + i + ": checksum() is wrong after " + call);
                return false;
            }
        }
        return true;
    }

    private void noteStates() {
        for (int i = 0; i < due.changes(); i++) {
            seen.merge("reason " + due.change(i, 4), 1, Integer::sum);
            seen.merge("is " + due.change(i, 0), 1, Integer::sum);
        }
        if (due.entries() > 0) {
            seen.merge("event " + due.entry(due.entries() - 1, 2), 1, Integer::sum);
        }
    }

    /** Calls that undo much come seldom while there is something to see; those that build come oftener. */
    private int pickMethod() {
        int method = random.nextInt(METHODS + 28);
        if (method >= METHODS) {
            return FREQUENT[mood][random.nextInt(FREQUENT[mood].length)];
        }
        boolean isAllOver = due.changes() > 2 && due.w.plans.stream().allMatch(p -> p.is("DONE", "TURNED"));
        if (isAllOver && random.nextInt(4) == 0) {
            return 0;
        }
        boolean undoesMuch = method == 0 || method == 3 || method == 31;
        return undoesMuch && random.nextInt(8) != 0 ? 20 : method;
    }

    private int number(int least, int most) {
        if (random.nextInt(oddness) == 0) {
            return ODD[random.nextInt(ODD.length)];
        }
        return random.nextInt(oddness) == 0 ? most + 1 : least + random.nextInt(most - least + 1);
    }

    private int someChange() {
        return number(0, Math.max(0, due.changes() - 1));
    }

    private int cell() {
        return number(0, due.w.cells - 1);
    }

    private int fewCells(int change) {
        if (random.nextInt(4) == 0) {
            return number(1, (1 << due.w.cells) - 1);
        }
        int used = 0;
        for (int i = 0; due.stage(change, i, 0) > 0; i++) {
            used |= due.stage(change, i, 0);
        }
        int cell = random.nextInt(due.w.cells);
        for (int i = 0; i < due.w.cells && (used >> cell & 1) != 0; i++) {
            cell = (cell + 1) % due.w.cells;
        }
        return 1 << cell;
    }

    private int small(int most) {
        return random.nextInt(3) == 0 ? number(0, most) : number(0, 3);
    }

    private long[] both(int method) {
        int a, b, c, d;
        switch (method) {
            case 0: a = number(1, 8); call = "begin(" + a + ")"; return two(real.begin(a), due.begin(a));
            case 1: a = random.nextInt(4) == 0 ? number(0, 1000) : number(0, 120); call = "setLimit(" + a + ")";
                return two(real.setLimit(a), due.setLimit(a));
            case 2: a = number(0, 167); b = random.nextInt(2) == 0 ? number(0, 168) : a + random.nextInt(9);
                call = "freeze(" + a + ", " + b + ")"; return two(real.freeze(a, b), due.freeze(a, b));
            case 3: call = "thaw()"; return two(real.thaw(), due.thaw());
            case 4: case 5: boolean risky = random.nextBoolean(); call = "addChange(" + risky + ")";
                return two(real.addChange(risky), due.addChange(risky));
            case 6: a = someChange(); b = fewCells(a); c = small(48); d = small(25);
                call = "addStage(" + a + ", " + b + ", " + c + ", " + d + ")";
                return two(real.addStage(a, b, c, d), due.addStage(a, b, c, d));
            case 7: return appendSome();
            case 8: a = someChange(); b = someChange(); call = "putAfter(" + a + ", " + b + ")";
                return two(real.putAfter(a, b), due.putAfter(a, b));
            case 9: call = "changes()"; return two(real.changes(), due.changes());
            case 10: a = someChange(); b = number(0, 5); c = number(0, 2); call = "stage(" + a + ", " + b + ", " + c + ")";
                return two(real.stage(a, b, c), due.stage(a, b, c));
            case 11: a = number(0, 127); call = "append(" + a + ")"; return two(real.append(a), due.append(a));
            case 12: call = "clearText()"; return two(real.clearText(), due.clearText());
            case 13: call = "faultPosition()"; return two(real.faultPosition(), due.faultPosition());
            case 14: a = someChange(); call = "read(" + a + ")"; return two(real.read(a), due.read(a));
            case 15: a = someChange(); call = "start(" + a + ")"; return two(real.start(a), due.start(a));
            case 16: a = someChange(); call = "hold(" + a + ")"; return two(real.hold(a), due.hold(a));
            case 17: a = someChange(); call = "resume(" + a + ")"; return two(real.resume(a), due.resume(a));
            case 18: a = someChange(); call = "turnBack(" + a + ")"; return two(real.turnBack(a), due.turnBack(a));
            case 19: a = cell(); b = random.nextInt(2) == 0 ? 0 : number(0, 9); c = number(0, 9);
                call = "report(" + a + ", " + b + ", " + c + ")"; return two(real.report(a, b, c), due.report(a, b, c));
            case 20: a = random.nextInt(9) == 0 ? number(1, 100) : number(1, 4); call = "pass(" + a + ")";
                return two(real.pass(a), due.pass(a));
            case 21: call = "time()"; return two(real.time(), due.time());
            case 22: a = someChange(); b = number(0, 6); call = "change(" + a + ", " + b + ")";
                return two(real.change(a, b), due.change(a, b));
            case 23: a = someChange(); b = number(0, 3); call = "probes(" + a + ", " + b + ")";
                return two(real.probes(a, b), due.probes(a, b));
            case 24: a = someChange(); boolean lower = random.nextBoolean(); call = "chance(" + a + ", " + lower + ")";
                return two(real.chance(a, lower), due.chance(a, lower));
            case 25: a = cell(); call = "has(" + a + ")"; return two(real.has(a), due.has(a));
            case 26: a = number(0, 167); call = "isFrozen(" + a + ")"; return two(real.isFrozen(a), due.isFrozen(a));
            case 27: a = someChange(); call = "forecast(" + a + ")"; return two(real.forecast(a), due.forecast(a));
            case 28: call = "entries()"; return two(real.entries(), due.entries());
            case 29: a = number(0, 19); b = number(0, 3); call = "entry(" + a + ", " + b + ")";
                return two(real.entry(a, b), due.entry(a, b));
            case 30: a = number(1, 7); b = random.nextBoolean() ? -1 : someChange(); call = "count(" + a + ", " + b + ")";
                return two(real.count(a, b), due.count(a, b));
            default: a = number(0, 1); boolean save = random.nextBoolean(); call = (save ? "save(" : "restore(") + a + ")";
                return save ? two(real.save(a), due.save(a)) : two(real.restore(a), due.restore(a));
        }
    }

    private static long[] two(long answered, long wanted) {
        return new long[] {answered, wanted};
    }

    /** Mostly whole stages that fit, so that texts come to be read, and now and then a wrong byte. */
    private long[] appendSome() {
        String piece = random.nextInt(6) == 0 ? String.valueOf("0123456789:/;".charAt(random.nextInt(13))) : stageText();
        if (due.text.length() > 50 && random.nextInt(3) == 0 || due.faultPosition() >= 0 && random.nextInt(3) != 0) {
            real.clearText();
            due.clearText();
        }
        long[] answers = {0, 0};
        for (int i = 0; i < piece.length() && answers[0] == answers[1]; i++) {
            callsMade += 2;
            call = "append(" + (int) piece.charAt(i) + ")";
            answers = two(real.append(piece.charAt(i)), due.append(piece.charAt(i)));
            if (real.faultPosition() != due.faultPosition()) {
                call = "faultPosition()";
                answers = two(real.faultPosition(), due.faultPosition());
            }
        }
        return answers;
    }

    private String stageText() {
        StringBuilder piece = new StringBuilder();
        String used = due.text.replaceAll(":[^;]*;", "");
        int first = random.nextInt(due.w.cells);
        for (int i = 0; i < due.w.cells; i++) {
            boolean isFree = used.indexOf('0' + i) < 0 || random.nextInt(40) == 0;
            if (isFree && (i == first || random.nextInt(due.w.cells) == 0)) {
                piece.append(i);
            }
        }
        piece.append(':').append(small(52)).append('/').append(small(28)).append(';');
        if (random.nextInt(8) == 0) {
            piece.setCharAt(random.nextInt(piece.length()), "0123456789:/;x".charAt(random.nextInt(14)));
        }
        return piece.toString();
    }
}
