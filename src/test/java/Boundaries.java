import java.util.ArrayList;
import java.util.List;
import java.util.function.IntToLongFunction;
import java.util.function.Supplier;
import java.util.function.ToLongFunction;

/**
 * What the tests of the document's boundary sentences share. Each of them is a test() of its own, named by the
 * words of the sentence, so that a failure tells which one is broken. No object gets more than 512 calls,
 * as what later ones answer is free.
 */
abstract class Boundaries {
    static final int BAD_INDEX = -11, BAD_VALUE = -12, NOT_POSSIBLE = -13, FULL = -14, NONE = -15;
    static final int PLANNED = 0, RUNNING = 1, HELD = 2, DONE = 3, TURNING = 4, TURNED = 5;
    static final int FREE = 0, NOT_UNDER_WAY = 1, TURNS = 2, IS_HELD = 3, WAITS = 4, LACKS_SAMPLES = 5, FROZEN = 6,
        IS_AFTER = 7, OTHER_RISK = 8;
    static final int LEAST = Integer.MIN_VALUE, MOST = Integer.MAX_VALUE;
    static final String SIX_STAGES = "0:0/0;1:0/0;2:0/0;3:0/0;4:0/0;5:0/0;";

    private static int tests = 0;
    private static int wrong = 0;
    private static String sentence = "";

    static void test(String words, Runnable body) {
        sentence = words;
        tests++;
        body.run();
    }

    static void due(String what, long got, long want) {
        if (got != want) {
            wrong++;
            System.out.println("\"" + sentence + "\": " + what + " answered " + got + ", due is " + want);
        }
    }

    static void dueForAll(String what, IntToLongFunction call, long want, int... arguments) {
        for (int argument : arguments) {
            due(what + " of " + argument, call.applyAsLong(argument), want);
        }
    }

    static void end(String name) {
        System.out.println(name + ": " + tests + " tests, " + wrong + " wrong");
        if (wrong != 0) {
            System.exit(1);
        }
    }

    static StagedRollout fleet(int cells) {
        StagedRollout x = new StagedRollout();
        x.begin(cells);
        return x;
    }

    /** A change of one-cell stages, from the cell 0 on, with these waits and without samples. */
    static int plan(StagedRollout x, boolean risky, int... waits) {
        int change = x.addChange(risky);
        for (int i = 0; i < waits.length; i++) {
            x.addStage(change, 1 << i, waits[i], 0);
        }
        return change;
    }

    static int startPlan(StagedRollout x, boolean risky, int... waits) {
        int change = plan(x, risky, waits);
        x.start(change);
        return change;
    }

    static StagedRollout running(int cells, int... waits) {
        StagedRollout x = fleet(cells);
        startPlan(x, false, waits);
        return x;
    }

    /** Brings a change that is PLANNED, with two stages without wait, to a state; it has begun stages if it can. */
    static void bring(StagedRollout x, int change, int state) {
        if (state == PLANNED) {
            return;
        }
        x.start(change);
        x.pass(1);
        if (state == HELD) {
            x.hold(change);
        } else if (state == DONE) {
            x.pass(2);
        } else if (state == TURNING) {
            x.pass(1);
            x.turnBack(change);
        } else if (state == TURNED) {
            x.turnBack(change);
            x.pass(1);
        }
        due("what it is", x.change(change, 0), state);
    }

    static StagedRollout inState(int state) {
        StagedRollout x = fleet(4);
        plan(x, false, 0, 0);
        bring(x, 0, state);
        return x;
    }

    static void write(StagedRollout x, String text) {
        x.clearText();
        for (int i = 0; i < text.length(); i++) {
            x.append(text.charAt(i));
        }
    }

    static void report(StagedRollout x, int cell, int bad, int good) {
        for (int left = bad; left > 0; left -= 9) {
            x.report(cell, Math.min(left, 9), 0);
        }
        for (int left = good; left > 0; left -= 9) {
            x.report(cell, 0, Math.min(left, 9));
        }
    }

    static int treated(StagedRollout x, int change) {
        return x.probes(change, 0) + x.probes(change, 1);
    }

    static int control(StagedRollout x, int change) {
        return x.probes(change, 2) + x.probes(change, 3);
    }

    static void entryIs(StagedRollout x, int entry, int time, int change, int event, int stage) {
        due("time of the entry " + entry, x.entry(entry, 0), time);
        due("change of the entry " + entry, x.entry(entry, 1), change);
        due("event of the entry " + entry, x.entry(entry, 2), event);
        due("stage of the entry " + entry, x.entry(entry, 3), stage);
    }

    /** Fills the log with this many entries, two an hour, of a change that is RUNNING without a free hour. */
    static StagedRollout logged(int entries) {
        StagedRollout x = running(4, 0);
        x.freeze(0, 168);
        for (int i = 0; i < entries; i++) {
            if (i % 2 == 0) {
                x.hold(0);
            } else {
                x.resume(0);
                x.pass(1);
            }
        }
        return x;
    }

    /** All that calls can tell of an object; it uses the object up, with some 400 calls. */
    static List<Long> picture(StagedRollout x) {
        List<Long> seen = new ArrayList<>();
        addWorld(x, seen);
        for (int hour = 0; hour < 168; hour++) {
            seen.add((long) x.isFrozen(hour));
        }
        seen.add((long) x.faultPosition());
        for (int slot = 0; slot < 2; slot++) {
            seen.add((long) x.restore(slot));
            addWorld(x, seen);
        }
        seen.add((long) x.begin(8));
        x.addChange(false);
        seen.add((long) x.read(0));
        addPlans(x, seen);
        seen.add((long) x.clearText());
        return seen;
    }

    private static void addWorld(StagedRollout x, List<Long> seen) {
        seen.add(x.checksum());
        addPlans(x, seen);
        int limit = x.setLimit(0);
        x.setLimit(limit);
        seen.add((long) limit);
        for (int change = 0; change < 5; change++) {
            seen.add((long) x.forecast(change));
        }
        seen.add((long) x.has(7));
    }

    private static void addPlans(StagedRollout x, List<Long> seen) {
        for (int change = 0; change < x.changes(); change++) {
            int stages = x.change(change, 1);
            for (int i = 0; i < 3 * stages; i++) {
                seen.add((long) x.stage(change, i / 3, i % 3));
            }
        }
    }

    /** Two objects are made alike, and the call comes to one of them: afterwards they are alike still. */
    static void refused(String what, Supplier<StagedRollout> maker, ToLongFunction<StagedRollout> call, int want) {
        StagedRollout called = maker.get();
        StagedRollout twin = maker.get();
        due(what, call.applyAsLong(called), want);
        due(what + " leaves all as it was (1)", picture(called).equals(picture(twin)) ? 1 : 0, 1);
        StagedRollout later = maker.get();
        StagedRollout laterTwin = maker.get();
        call.applyAsLong(later);
        due(what + " leaves the hours to come", later.pass(9), laterTwin.pass(9));
        due(what + " leaves the spans", later.thaw(), laterTwin.thaw());
        due(what + " leaves the text", later.clearText(), laterTwin.clearText());
        due(what + " leaves the cells", later.begin(1), laterTwin.begin(1));
    }
}
