/** For each promise of the document: ordinary inputs, the edges that it names, and wrong inputs. */
public final class PromisesTest {
    private static final int BAD_INDEX = -11, BAD_VALUE = -12, NOT_POSSIBLE = -13, FULL = -14, NONE = -15;
    private static final int LEAST = Integer.MIN_VALUE, MOST = Integer.MAX_VALUE;

    private static int wrong = 0;
    private static int promise = 0;

    public static void main(String[] args) {
        newObject();
        begin();
        setLimit();
        freeze();
        thaw();
        addChange();
        addStage();
        putAfter();
        changes();
        stage();
        append();
        clearText();
        faultPosition();
        read();
        start();
        hold();
        resume();
        turnBack();
        report();
        pass();
        passTurnsBadChanges();
        passKeepsOrder();
        time();
        change();
        reasons();
        probes();
        chance();
        has();
        isFrozen();
        forecast();
        forecastIgnoresProbes();
        entries();
        entry();
        count();
        save();
        restore();
        checksum();
        System.out.println(wrong == 0 ? "promises: all answers are as due" : "promises: " + wrong + " wrong");
        if (wrong != 0) {
            System.exit(1);
        }
    }

    private static void due(String what, long got, long want) {
        if (got != want) {
            wrong++;
            System.out.println("promise " + promise + ": " + what + " answered " + got + ", due is " + want);
        }
    }

    /** A call that reports an error changes nothing; the checksum sees most of it. */
    private static void refused(StagedRollout x, long before, String what, long got, long want) {
        due(what, got, want);
        due("checksum() after " + what, x.checksum(), before);
    }

    private static StagedRollout with(int cells, int changes) {
        StagedRollout x = new StagedRollout();
        x.begin(cells);
        for (int i = 0; i < changes; i++) {
            x.addChange(false);
        }
        return x;
    }

    /** One change of one-cell stages with these waits and no samples, started. */
    private static StagedRollout running(int cells, int... waits) {
        StagedRollout x = with(cells, 1);
        for (int i = 0; i < waits.length; i++) {
            x.addStage(0, 1 << i, waits[i], 0);
        }
        x.start(0);
        return x;
    }

    private static void write(StagedRollout x, String text) {
        x.clearText();
        for (int i = 0; i < text.length(); i++) {
            x.append(text.charAt(i));
        }
    }

    /** A new object for each text, as one is good for 512 calls alone. */
    private static void fault(int cells, String text, int want) {
        StagedRollout x = with(cells, 0);
        write(x, text);
        due("faultPosition() of \"" + text + "\"", x.faultPosition(), want);
    }

    private static void newObject() {
        promise = 1;
        StagedRollout x = new StagedRollout();
        due("changes()", x.changes(), 0);
        due("time()", x.time(), 0);
        due("entries()", x.entries(), 0);
        due("has(3)", x.has(3), 0);
        due("has(4)", x.has(4), BAD_INDEX);
        due("thaw()", x.thaw(), 0);
        due("clearText()", x.clearText(), 0);
        due("faultPosition()", x.faultPosition(), NONE);
        due("restore(0)", x.restore(0), NOT_POSSIBLE);
        due("restore(1)", x.restore(1), NOT_POSSIBLE);
        due("setLimit(0)", x.setLimit(0), 50);
        due("begin(1)", x.begin(1), 4);
        for (int hour = 0; hour < 168; hour++) {
            due("isFrozen(" + hour + ")", x.isFrozen(hour), 0);
        }
    }

    private static void begin() {
        promise = 2;
        StagedRollout x = running(3, 1, 0);
        x.setLimit(7);
        write(x, "0:1/2;");
        x.freeze(100, 168);
        x.pass(2);
        x.save(1);
        long before = x.checksum();
        for (int cells : new int[] {0, -1, 9, LEAST, MOST}) {
            refused(x, before, "begin(" + cells + ")", x.begin(cells), BAD_VALUE);
        }
        due("begin(8)", x.begin(8), 3);
        due("changes()", x.changes(), 0);
        due("change(0, 0)", x.change(0, 0), BAD_INDEX);
        due("time()", x.time(), 0);
        due("entries()", x.entries(), 0);
        due("isFrozen(100)", x.isFrozen(100), 0);
        due("has(7)", x.has(7), 0);
        due("has(8)", x.has(8), BAD_INDEX);
        due("faultPosition()", x.faultPosition(), NONE);
        due("clearText()", x.clearText(), 6);
        due("begin(1)", x.begin(1), 8);
        due("setLimit(9)", x.setLimit(9), 7);
        due("thaw()", x.thaw(), 0);
        due("restore(1)", x.restore(1), 2);
        due("restored checksum()", x.checksum(), before);
        x.begin(2);
        due("addChange(true)", x.addChange(true), 0);
        due("a change made anew: stages", x.change(0, 1), 0);
        due("a change made anew: begun", x.change(0, 2), 0);
        due("a change made anew: is", x.change(0, 0), StagedRollout.PLANNED);
    }

    private static void setLimit() {
        promise = 3;
        StagedRollout x = new StagedRollout();
        due("setLimit(0)", x.setLimit(0), 50);
        due("setLimit(1000)", x.setLimit(1000), 0);
        for (int limit : new int[] {-1, 1001, LEAST, MOST}) {
            due("setLimit(" + limit + ")", x.setLimit(limit), BAD_VALUE);
        }
        due("setLimit(5)", x.setLimit(5), 1000);
    }

    private static void freeze() {
        promise = 4;
        StagedRollout x = new StagedRollout();
        int[][] wrongs = {{-1, 5}, {168, 169}, {5, 5}, {5, 4}, {167, 169}, {LEAST, 1}, {MOST, LEAST}, {MOST, MOST}, {3, MOST}, {3, -1}};
        for (int[] span : wrongs) {
            due("freeze(" + span[0] + ", " + span[1] + ")", x.freeze(span[0], span[1]), BAD_VALUE);
        }
        due("freeze(0, 1)", x.freeze(0, 1), 1);
        due("freeze(167, 168)", x.freeze(167, 168), 2);
        due("the same span again", x.freeze(167, 168), 3);
        due("a fourth", x.freeze(5, 6), FULL);
        due("a fourth, wrong", x.freeze(5, 5), BAD_VALUE);
        due("isFrozen(5)", x.isFrozen(5), 0);
        due("isFrozen(0)", x.isFrozen(0), 1);
        due("isFrozen(1)", x.isFrozen(1), 0);
        due("isFrozen(166)", x.isFrozen(166), 0);
        due("isFrozen(167)", x.isFrozen(167), 1);
        x = new StagedRollout();
        due("the whole week", x.freeze(0, 168), 1);
        due("isFrozen(84)", x.isFrozen(84), 1);
    }

    private static void thaw() {
        promise = 5;
        StagedRollout x = new StagedRollout();
        x.freeze(3, 9);
        x.freeze(20, 21);
        due("thaw()", x.thaw(), 2);
        due("isFrozen(3)", x.isFrozen(3), 0);
        due("isFrozen(20)", x.isFrozen(20), 0);
        due("thaw()", x.thaw(), 0);
        due("freeze(40, 41)", x.freeze(40, 41), 1);
        due("isFrozen(3)", x.isFrozen(3), 0);
    }

    private static void addChange() {
        promise = 6;
        StagedRollout x = new StagedRollout();
        for (int i = 0; i < 5; i++) {
            due("addChange", x.addChange(i % 2 == 0), i);
            due("what it is", x.change(i, 0), StagedRollout.PLANNED);
            due("its stages", x.change(i, 1), 0);
            due("risky", x.change(i, 6), i % 2 == 0 ? 1 : 0);
        }
        long before = x.checksum();
        refused(x, before, "a sixth", x.addChange(true), FULL);
        due("changes()", x.changes(), 5);
    }

    private static void addStage() {
        promise = 7;
        StagedRollout x = with(8, 2);
        due("addStage(0, 1, 48, 25)", x.addStage(0, 1, 48, 25), 1);
        due("addStage(0, 128, 0, 0)", x.addStage(0, 128, 0, 0), 2);
        long before = x.checksum();
        refused(x, before, "change -1", x.addStage(-1, 0, 0, 0), BAD_INDEX);
        refused(x, before, "change 2", x.addStage(2, 2, 0, 0), BAD_INDEX);
        refused(x, before, "change MOST", x.addStage(MOST, 2, 0, 0), BAD_INDEX);
        int[][] wrongs = {{0, 0, 0}, {-1, 0, 0}, {256, 0, 0}, {LEAST, 0, 0}, {MOST, 0, 0}, {2, -1, 0}, {2, 49, 0},
            {2, LEAST, 0}, {2, 0, -1}, {2, 0, 26}, {2, 0, MOST}, {1, 49, 0}};
        for (int[] w : wrongs) {
            refused(x, before, "addStage(0, " + w[0] + ", " + w[1] + ", " + w[2] + ")",
                x.addStage(0, w[0], w[1], w[2]), BAD_VALUE);
        }
        refused(x, before, "a cell again", x.addStage(0, 3, 0, 0), NOT_POSSIBLE);
        due("addStage(1, 255, 1, 1)", x.addStage(1, 255, 1, 1), 1);
        for (int i = 1; i < 5; i++) {
            due("one more", x.addStage(0, 1 << i, i, i), i + 2);
        }
        refused(x, x.checksum(), "a seventh", x.addStage(0, 32, 0, 0), FULL);
        refused(x, x.checksum(), "a seventh with a cell again", x.addStage(0, 33, 0, 0), NOT_POSSIBLE);
        x.start(0);
        refused(x, x.checksum(), "after the start", x.addStage(0, 32, 0, 0), NOT_POSSIBLE);
        StagedRollout small = with(1, 1);
        due("cells 2 of a fleet of one", small.addStage(0, 2, 0, 0), BAD_VALUE);
        due("cells 1 of a fleet of one", small.addStage(0, 1, 0, 0), 1);
        due("the values that it kept", x.stage(0, 0, 0) * 10000 + x.stage(0, 0, 1) * 100 + x.stage(0, 0, 2), 14825);
    }

    private static void putAfter() {
        promise = 8;
        StagedRollout x = with(4, 5);
        due("putAfter(4, 0)", x.putAfter(4, 0), 1);
        due("putAfter(4, 3)", x.putAfter(4, 3), 2);
        due("putAfter(4, 0) again", x.putAfter(4, 0), 2);
        due("the set", x.change(4, 5), 9);
        due("the set of the first", x.change(0, 5), 0);
        x.addStage(2, 1, 0, 0);
        x.start(2);
        long before = x.checksum();
        int[][] wrongs = {{5, 0}, {-1, 0}, {0, 0}, {3, 3}, {1, 2}, {3, -1}, {3, LEAST}, {MOST, 1}, {4, 5}, {2, 2}};
        for (int[] w : wrongs) {
            refused(x, before, "putAfter(" + w[0] + ", " + w[1] + ")", x.putAfter(w[0], w[1]), BAD_INDEX);
        }
        refused(x, before, "putAfter(2, 0) after the start", x.putAfter(2, 0), NOT_POSSIBLE);
        due("after one that is started", x.putAfter(3, 2), 1);
    }

    private static void changes() {
        promise = 9;
        StagedRollout x = new StagedRollout();
        for (int i = 0; i < 7; i++) {
            due("changes()", x.changes(), Math.min(i, 5));
            x.addChange(false);
        }
    }

    private static void stage() {
        promise = 10;
        StagedRollout x = with(5, 2);
        x.addStage(1, 17, 3, 20);
        x.addStage(1, 6, 48, 0);
        due("stage(1, 0, 0)", x.stage(1, 0, 0), 17);
        due("stage(1, 0, 1)", x.stage(1, 0, 1), 3);
        due("stage(1, 0, 2)", x.stage(1, 0, 2), 20);
        due("stage(1, 1, 0)", x.stage(1, 1, 0), 6);
        due("stage(1, 1, 1)", x.stage(1, 1, 1), 48);
        due("stage(1, 1, 2)", x.stage(1, 1, 2), 0);
        int[][] noSuch = {{0, 0, 0}, {1, 2, 0}, {1, -1, 0}, {2, 0, 0}, {-1, 0, 0}, {1, LEAST, 0}, {MOST, 0, 0}, {1, 2, 9}, {1, MOST, 3}};
        for (int[] w : noSuch) {
            due("stage(" + w[0] + ", " + w[1] + ", " + w[2] + ")", x.stage(w[0], w[1], w[2]), BAD_INDEX);
        }
        for (int what : new int[] {-1, 3, LEAST, MOST}) {
            due("stage(1, 0, " + what + ")", x.stage(1, 0, what), BAD_VALUE);
        }
    }

    private static void append() {
        promise = 11;
        StagedRollout x = new StagedRollout();
        due("append(0)", x.append(0), 1);
        due("append(127)", x.append(127), 2);
        for (int letter : new int[] {-1, 128, LEAST, MOST}) {
            due("append(" + letter + ")", x.append(letter), BAD_VALUE);
        }
        for (int i = 3; i <= 60; i++) {
            due("append(48)", x.append(48), i);
        }
        due("a 61st", x.append(48), FULL);
        due("a 61st, wrong", x.append(128), BAD_VALUE);
        due("clearText()", x.clearText(), 60);
    }

    private static void clearText() {
        promise = 12;
        StagedRollout x = new StagedRollout();
        write(x, "0:1");
        due("clearText()", x.clearText(), 3);
        due("clearText()", x.clearText(), 0);
        due("append(48)", x.append(48), 1);
        due("faultPosition()", x.faultPosition(), 1);
    }

    private static void faultPosition() {
        promise = 13;
        fault(8, "", NONE);
        fault(8, "0:0/0;", NONE);
        fault(8, "01234567:48/25;", NONE);
        fault(8, "7:1/1;02:10/9;13:0/0;", NONE);
        fault(8, "0:0/0;1:0/0;2:0/0;3:0/0;4:0/0;5:0/0;", NONE);
        fault(8, "0:0/0;1:0/0;2:0/0;3:0/0;4:0/0;5:0/0;6:0/0;", 36);
        fault(8, "0:0/0;1:0/0;2:0/0;3:0/0;4:0/0;5:0/0;x", 36);
        fault(8, "8:1/1;", 0);
        fault(8, "9", 0);
        fault(8, ":1/1;", 0);
        fault(8, ";", 0);
        fault(8, "0", 1);
        fault(8, "00:1/1;", 1);
        fault(8, "10:1/1;", 1);
        fault(8, "08:1/1;", 1);
        fault(8, "0;", 1);
        fault(8, "0:", 2);
        fault(8, "0:/", 2);
        fault(8, "0:a", 2);
        fault(8, "0:-1", 2);
        fault(8, "0:0", 3);
        fault(8, "0:00/1;", 3);
        fault(8, "0:05/1;", 3);
        fault(8, "0:4", 3);
        fault(8, "0:4;", 3);
        fault(8, "0:48", 4);
        fault(8, "0:49", 2);
        fault(8, "0:49/1;", 2);
        fault(8, "0:490/1;", 2);
        fault(8, "0:99/1;", 2);
        fault(8, "0:480/1;", 4);
        fault(8, "0:123", 4);
        fault(8, "0:1/", 4);
        fault(8, "0:1/;", 4);
        fault(8, "0:1/2", 5);
        fault(8, "0:1/2/", 5);
        fault(8, "0:1/25", 6);
        fault(8, "0:1/26", 4);
        fault(8, "0:1/26;", 4);
        fault(8, "0:1/99;", 4);
        fault(8, "0:1/01;", 5);
        fault(8, "0:1/250;", 6);
        fault(8, "0:1/2;0", 6);
        fault(8, "0:1/2;10:1/1;", 7);
        fault(8, "0:1/2;12:1/1;2:0/0;", 13);
        fault(8, "0:1/2; ", 6);
        fault(8, "0:1/2;1:1/1;\u0000", 12);
        fault(4, "3:1/2;", NONE);
        fault(4, "4:1/2;", 0);
        fault(4, "34:1/2;", 1);
        StagedRollout x = with(4, 0);
        write(x, "34:1/2;");
        due("a text in a small fleet", x.faultPosition(), 1);
        x.begin(8);
        due("the same text in a larger fleet", x.faultPosition(), NONE);
        write(x, "0:10/10;1:10/10;2:10/10;3:10/10;4:10/10;5:10/10;");
        due("48 bytes", x.faultPosition(), NONE);
        write(x, "012345670123456701234567012345670123456701234567012345670123");
        due("60 digits", x.faultPosition(), 8);
    }

    private static void read() {
        promise = 14;
        StagedRollout x = with(8, 2);
        x.addStage(0, 255, 9, 9);
        write(x, "07:48/25;1:0/0;");
        due("read(0)", x.read(0), 2);
        due("stages", x.change(0, 1), 2);
        int[] want = {129, 48, 25, 2, 0, 0};
        for (int i = 0; i < 6; i++) {
            due("stage number " + i, x.stage(0, i / 3, i % 3), want[i]);
        }
        due("a cell of the old plan", x.addStage(0, 4, 1, 1), 3);
        due("read(0) again", x.read(0), 2);
        due("read(1)", x.read(1), 2);
        due("read(2)", x.read(2), BAD_INDEX);
        due("read(-1)", x.read(-1), BAD_INDEX);
        due("clearText()", x.clearText(), 15);
        due("an empty text", x.read(1), 0);
        due("no stages", x.change(1, 1), 0);
        write(x, "2:1/1");
        refused(x, x.checksum(), "a fault", x.read(0), NOT_POSSIBLE);
        due("a fault and no change", x.read(2), BAD_INDEX);
        due("the plan stays", x.stage(0, 0, 0), 129);
        write(x, "2:1/1;");
        x.start(0);
        refused(x, x.checksum(), "after the start", x.read(0), NOT_POSSIBLE);
        write(x, "0:0/0;1:0/0;2:0/0;3:0/0;4:0/0;5:0/0;");
        due("six stages", x.read(1), 6);
        write(x, "0:0/0;1:0/0;2:0/0;3:0/0;4:0/0;5:0/0;6:0/0;");
        due("seven stages", x.read(1), NOT_POSSIBLE);
    }

    private static void start() {
        promise = 15;
        StagedRollout x = with(4, 2);
        due("without stages", x.start(0), NOT_POSSIBLE);
        due("start(2)", x.start(2), BAD_INDEX);
        due("start(-1)", x.start(-1), BAD_INDEX);
        x.addStage(0, 1, 0, 0);
        x.addStage(0, 2, 0, 0);
        due("start(0)", x.start(0), 2);
        due("is", x.change(0, 0), StagedRollout.RUNNING);
        due("begun", x.change(0, 2), 0);
        due("has(0)", x.has(0), 0);
        due("entries()", x.entries(), 0);
        refused(x, x.checksum(), "twice", x.start(0), NOT_POSSIBLE);
    }

    private static void hold() {
        promise = 16;
        StagedRollout x = running(4, 0, 0, 0);
        x.addChange(false);
        due("hold(1)", x.hold(1), NOT_POSSIBLE);
        due("hold(2)", x.hold(2), BAD_INDEX);
        due("hold(-1)", x.hold(-1), BAD_INDEX);
        x.pass(2);
        due("hold(0)", x.hold(0), 2);
        due("is", x.change(0, 0), StagedRollout.HELD);
        due("time of the entry", x.entry(2, 0), 2);
        due("event of the entry", x.entry(2, 2), 6);
        due("stage of the entry", x.entry(2, 3), NONE);
        refused(x, x.checksum(), "twice", x.hold(0), NOT_POSSIBLE);
        due("nothing goes on", x.pass(50), 0);
        due("begun", x.change(0, 2), 2);
    }

    private static void resume() {
        promise = 17;
        StagedRollout x = running(4, 0, 0, 0);
        due("resume(0)", x.resume(0), NOT_POSSIBLE);
        due("resume(1)", x.resume(1), BAD_INDEX);
        due("resume(-1)", x.resume(-1), BAD_INDEX);
        x.pass(1);
        x.hold(0);
        x.pass(4);
        due("resume(0)", x.resume(0), 1);
        due("is", x.change(0, 0), StagedRollout.RUNNING);
        due("time of the entry", x.entry(2, 0), 5);
        due("event of the entry", x.entry(2, 2), 7);
        due("stage of the entry", x.entry(2, 3), NONE);
        refused(x, x.checksum(), "twice", x.resume(0), NOT_POSSIBLE);
        due("it goes on", x.pass(1), 1);
    }

    private static void turnBack() {
        promise = 18;
        StagedRollout x = running(4, 0, 0);
        due("turnBack(1)", x.turnBack(1), BAD_INDEX);
        due("turnBack(-1)", x.turnBack(-1), BAD_INDEX);
        due("turnBack(0) without begun stages", x.turnBack(0), 0);
        due("is", x.change(0, 0), StagedRollout.TURNING);
        due("event", x.entry(0, 2), 3);
        due("stage of the entry", x.entry(0, 3), NONE);
        refused(x, x.checksum(), "twice", x.turnBack(0), NOT_POSSIBLE);
        due("only TURNED, not BACK", x.pass(1), 1);
        due("event", x.entry(1, 2), 5);
        due("is", x.change(0, 0), StagedRollout.TURNED);
        refused(x, x.checksum(), "when TURNED", x.turnBack(0), NOT_POSSIBLE);
        StagedRollout held = running(4, 0, 0);
        held.pass(1);
        held.hold(0);
        due("when HELD", held.turnBack(0), 1);
        StagedRollout done = running(4, 0, 0);
        done.pass(3);
        due("is", done.change(0, 0), StagedRollout.DONE);
        due("when DONE", done.turnBack(0), 2);
        due("has(1)", done.has(1), 1);
        done.pass(1);
        due("has(1)", done.has(1), 0);
        due("has(0)", done.has(0), 1);
        due("the hours of the stage before", done.change(0, 3), 4);
        due("is", done.change(0, 0), StagedRollout.TURNING);
        due("BACK and TURNED in one hour", done.pass(1), 2);
        due("when PLANNED", with(4, 1).turnBack(0), NOT_POSSIBLE);
    }

    private static void report() {
        promise = 19;
        StagedRollout x = with(4, 3);
        x.addStage(0, 3, 9, 0);
        x.addStage(1, 4, 9, 0);
        x.start(0);
        x.start(1);
        due("before a stage begins", x.report(0, 1, 1), 0);
        x.pass(1);
        due("report(0, 1, 2)", x.report(0, 1, 2), 2);
        due("treated", x.probes(0, 0) * 10 + x.probes(0, 1), 12);
        due("control", x.probes(1, 2) * 10 + x.probes(1, 3), 12);
        due("not treated", x.probes(1, 0) + x.probes(1, 1) + x.probes(0, 2) + x.probes(0, 3), 0);
        x.hold(1);
        due("HELD too", x.report(3, 0, 9), 2);
        due("up to 21", x.report(1, 9, 9), 1);
        due("treated is 21", x.probes(0, 0) + x.probes(0, 1), 21);
        due("control was 12", x.probes(1, 2) + x.probes(1, 3), 12);
        due("26 are too many, 17 are not", x.report(0, 0, 5), 1);
        due("up to 25", x.report(0, 4, 0), 2);
        due("none beyond 25", x.report(0, 1, 0), 1);
        due("0 and 0 count likewise", x.report(0, 0, 0), 2);
        due("treated is 25", x.probes(0, 0) + x.probes(0, 1), 25);
        long before = x.checksum();
        refused(x, before, "cell 4", x.report(4, 0, 0), BAD_INDEX);
        refused(x, before, "cell -1", x.report(-1, 10, 0), BAD_INDEX);
        refused(x, before, "bad -1", x.report(0, -1, 1), BAD_VALUE);
        refused(x, before, "bad 10", x.report(0, 10, 0), BAD_VALUE);
        refused(x, before, "good -1", x.report(0, 1, -1), BAD_VALUE);
        refused(x, before, "good 10", x.report(0, 0, 10), BAD_VALUE);
        refused(x, before, "sums that wrap", x.report(0, MOST, MOST), BAD_VALUE);
        x.turnBack(0);
        due("TURNING does not count", x.report(3, 0, 0), 1);
        StagedRollout done = running(1, 0);
        done.pass(2);
        due("DONE does not count", done.report(0, 0, 0), 0);
    }

    private static void pass() {
        promise = 20;
        StagedRollout x = running(4, 2, 0, 1);
        long before = x.checksum();
        for (int hours : new int[] {0, -1, 101, LEAST, MOST}) {
            refused(x, before, "pass(" + hours + ")", x.pass(hours), BAD_VALUE);
        }
        due("the first stage begins", x.pass(1), 1);
        due("it waits", x.pass(1), 0);
        due("the second stage", x.pass(1), 1);
        due("the third stage, and DONE", x.pass(2), 2);
        due("is", x.change(0, 0), StagedRollout.DONE);
        due("nothing more", x.pass(100), 0);
        due("time()", x.time(), 105);
        int[] want = {0, 0, 1, 0, 2, 0, 1, 1, 3, 0, 1, 2, 4, 0, 2, NONE};
        for (int i = 0; i < 16; i++) {
            due("entry(" + i / 4 + ", " + i % 4 + ")", x.entry(i / 4, i % 4), want[i]);
        }
        StagedRollout many = with(6, 5);
        for (int i = 0; i < 5; i++) {
            for (int k = 0; k < 6; k++) {
                many.addStage(i, 1 << k, 0, 0);
            }
            many.start(i);
        }
        due("also those that the log lost", many.pass(100), 35);
        due("entries()", many.entries(), 20);
        StagedRollout frozen = running(2, 0, 0);
        frozen.freeze(1, 168);
        due("the hour 0 of two weeks", frozen.pass(100) * 10 + frozen.pass(100), 12);
        due("DONE in a frozen hour", frozen.change(0, 0), StagedRollout.DONE);
        due("the second week", frozen.entry(1, 0), 168);
        due("the hour after it", frozen.entry(2, 0), 169);
    }

    private static void passTurnsBadChanges() {
        StagedRollout x = running(4, 0, 0, 0);
        x.setLimit(1000);
        due("no stage has begun yet", x.pass(1), 1);
        due("the limit 1000 makes each chance bad", x.pass(1), 1);
        due("is", x.change(0, 0), StagedRollout.TURNING);
        due("no stage began in that hour", x.change(0, 2), 1);
        due("BACK and TURNED", x.pass(1), 2);
        x = running(4, 0, 0, 0);
        x.pass(1);
        x.hold(0);
        x.setLimit(1000);
        x.pass(1);
        due("HELD turns too", x.change(0, 0), StagedRollout.TURNING);
        // Two bad treated probes against two good control ones: the chance is 1 of 6.
        for (int limit = 166; limit <= 167; limit++) {
            x = running(4, 9, 0, 0);
            x.setLimit(limit);
            x.pass(1);
            x.report(0, 2, 0);
            x.report(1, 0, 2);
            x.pass(1);
            due("limit " + limit, x.change(0, 0), limit == 166 ? StagedRollout.RUNNING : StagedRollout.TURNING);
        }
        // One bad of one against one good: 1 of 2, which is just at the limit.
        x = running(4, 9, 0, 0);
        x.setLimit(500);
        x.pass(1);
        x.report(0, 1, 0);
        x.report(1, 0, 1);
        x.pass(1);
        due("just at the limit", x.change(0, 0), StagedRollout.TURNING);
        due("probes stay", x.pass(1) * 0 + x.probes(0, 0) + x.probes(0, 3), 2);
        x = running(4, 9, 0, 0);
        x.setLimit(0);
        x.pass(1);
        x.report(0, 9, 0);
        x.report(1, 0, 9);
        x.pass(1);
        due("the limit 0", x.change(0, 0), StagedRollout.RUNNING);
        x = running(2, 0, 0);
        x.pass(3);
        x.setLimit(1000);
        due("DONE is left alone", x.pass(5), 0);
    }

    private static void passKeepsOrder() {
        StagedRollout x = with(4, 0);
        x.addChange(true);
        x.addChange(true);
        x.addChange(false);
        for (int i = 0; i < 3; i++) {
            x.addStage(i, 1 << i, 0, 0);
            x.start(i);
        }
        x.hold(2);
        x.turnBack(2);
        due("0 begins, 2 is TURNED", x.pass(1), 2);
        due("1 sees that 0 has begun", x.change(1, 2), 0);
        due("0 is DONE, so 1 begins in the same hour", x.pass(1), 2);
        due("0", x.change(0, 0), StagedRollout.DONE);
        due("1", x.change(1, 2), 1);
        StagedRollout y = with(4, 0);
        y.addChange(true);
        y.addChange(true);
        y.addStage(0, 1, 0, 0);
        y.addStage(1, 2, 0, 0);
        y.start(1);
        y.pass(1);
        y.start(0);
        due("1 is DONE, 0 has been gone through already", y.pass(1), 1);
        due("0 begins an hour later", y.pass(1), 1);
        due("its time", y.entry(2, 0), 2);
    }

    private static void time() {
        promise = 21;
        StagedRollout x = new StagedRollout();
        due("time()", x.time(), 0);
        x.pass(1);
        x.pass(100);
        x.pass(101);
        due("time()", x.time(), 101);
    }

    private static void change() {
        promise = 22;
        StagedRollout x = with(4, 1);
        x.addChange(true);
        x.addStage(1, 1, 2, 0);
        x.addStage(1, 2, 5, 0);
        x.putAfter(1, 0);
        int[] planned = {0, 2, 0, 0, 1, 1, 1};
        for (int what = 0; what < 7; what++) {
            due("PLANNED, change(1, " + what + ")", x.change(1, what), planned[what]);
        }
        x.addStage(0, 8, 0, 0);
        x.start(0);
        x.start(1);
        x.pass(2);
        x.pass(6);
        int[] running = {1, 2, 2, 5, 0, 1, 1};
        for (int what = 0; what < 7; what++) {
            due("RUNNING, change(1, " + what + ")", x.change(1, what), running[what]);
        }
        x.turnBack(1);
        x.pass(1);
        due("the time of the first stage", x.change(1, 3), 8);
        x.pass(1);
        due("0 without begun stages", x.change(1, 3), 0);
        due("change(2, 0)", x.change(2, 0), BAD_INDEX);
        due("change(-1, 7)", x.change(-1, 7), BAD_INDEX);
        due("change(0, -1)", x.change(0, -1), BAD_VALUE);
        due("change(0, 7)", x.change(0, 7), BAD_VALUE);
        due("change(0, MOST)", x.change(0, MOST), BAD_VALUE);
    }

    private static void reason(String when, StagedRollout x, int change, int want) {
        due("reason when " + when, x.change(change, 4), want);
    }

    private static void reasons() {
        StagedRollout x = with(2, 0);
        x.addChange(true);
        x.addChange(true);
        x.addStage(0, 1, 3, 2);
        x.addStage(0, 2, 0, 1);
        x.addStage(1, 2, 0, 0);
        x.putAfter(1, 0);
        reason("PLANNED", x, 0, StagedRollout.NOT_UNDER_WAY);
        x.start(0);
        x.start(1);
        reason("started", x, 0, StagedRollout.FREE);
        reason("after another", x, 1, StagedRollout.IS_AFTER);
        x.freeze(0, 1);
        reason("frozen and after another", x, 1, StagedRollout.FROZEN);
        reason("frozen", x, 0, StagedRollout.FROZEN);
        x.thaw();
        x.pass(1);
        reason("it waits and lacks samples", x, 0, StagedRollout.WAITS);
        x.hold(0);
        reason("held and waits", x, 0, StagedRollout.IS_HELD);
        x.resume(0);
        x.pass(1);
        reason("2 of 3 hours", x, 0, StagedRollout.WAITS);
        x.pass(1);
        reason("3 hours, no samples", x, 0, StagedRollout.LACKS_SAMPLES);
        x.report(0, 0, 2);
        reason("no control samples", x, 0, StagedRollout.LACKS_SAMPLES);
        x.report(1, 0, 1);
        reason("too few control samples", x, 0, StagedRollout.LACKS_SAMPLES);
        x.report(1, 0, 1);
        reason("samples enough", x, 0, StagedRollout.FREE);
        x.freeze(3, 4);
        reason("the present hour is frozen", x, 0, StagedRollout.FROZEN);
        x.thaw();
        x.pass(1);
        reason("a new stage, without probes", x, 0, StagedRollout.LACKS_SAMPLES);
        x.report(1, 0, 1);
        reason("all cells have it, no control is asked for", x, 0, StagedRollout.FREE);
        x.freeze(0, 168);
        reason("frozen, but no further stage", x, 0, StagedRollout.FREE);
        x.thaw();
        x.turnBack(0);
        reason("it turns", x, 0, StagedRollout.TURNS);
        x.pass(2);
        reason("TURNED", x, 0, StagedRollout.NOT_UNDER_WAY);
        reason("the first one is TURNED, not DONE", x, 1, StagedRollout.IS_AFTER);
        StagedRollout y = with(2, 0);
        y.addChange(true);
        y.addChange(true);
        y.addChange(false);
        for (int i = 0; i < 3; i++) {
            y.addStage(i, 1, 9, 0);
            y.start(i);
        }
        reason("the other risk has not begun", y, 1, StagedRollout.FREE);
        y.pass(1);
        reason("the other risk has begun", y, 1, StagedRollout.OTHER_RISK);
        y.hold(0);
        reason("the other risk is HELD", y, 1, StagedRollout.OTHER_RISK);
        y.turnBack(0);
        reason("the other risk turns", y, 1, StagedRollout.OTHER_RISK);
        due("the harmless one has begun", y.change(2, 2), 1);
        y.hold(1);
        y.pass(1);
        y.resume(1);
        reason("the other risk is TURNED", y, 1, StagedRollout.FREE);
    }

    private static void probes() {
        promise = 23;
        StagedRollout x = running(2, 0, 0);
        x.pass(1);
        x.setLimit(0);
        x.report(0, 1, 2);
        x.report(1, 3, 4);
        x.report(0, 1, 1);
        int[] want = {2, 3, 3, 4};
        for (int what = 0; what < 4; what++) {
            due("probes(0, " + what + ")", x.probes(0, what), want[what]);
        }
        due("probes(1, 0)", x.probes(1, 0), BAD_INDEX);
        due("probes(-1, 9)", x.probes(-1, 9), BAD_INDEX);
        due("probes(0, 4)", x.probes(0, 4), BAD_VALUE);
        due("probes(0, -1)", x.probes(0, -1), BAD_VALUE);
        x.turnBack(0);
        x.pass(1);
        due("they stay when turned back", x.probes(0, 3), 4);
        StagedRollout y = running(2, 0, 0);
        y.pass(1);
        y.report(0, 0, 1);
        y.report(1, 0, 1);
        y.pass(1);
        due("0 when a stage begins", y.probes(0, 1) + y.probes(0, 3), 0);
        y.report(1, 0, 6);
        y.pass(1);
        due("they stay when it is DONE", y.probes(0, 1), 6);
    }

    private static void chanceOf(int a, int b, int c, int d, long numerator, long denominator) {
        StagedRollout x = running(2, 0, 0);
        x.pass(1);
        report(x, 0, a, b);
        report(x, 1, c, d);
        String of = "chance of " + a + ", " + b + ", " + c + ", " + d;
        due(of + ": numerator", x.chance(0, false), numerator);
        due(of + ": denominator", x.chance(0, true), denominator);
    }

    private static void report(StagedRollout x, int cell, int bad, int good) {
        for (int left = bad; left > 0; left -= 9) {
            x.report(cell, Math.min(left, 9), 0);
        }
        for (int left = good; left > 0; left -= 9) {
            x.report(cell, 0, Math.min(left, 9));
        }
    }

    private static void chance() {
        promise = 24;
        chanceOf(0, 0, 0, 0, 1, 1);
        chanceOf(0, 9, 9, 0, 1, 1);
        chanceOf(1, 0, 0, 1, 1, 2);
        chanceOf(2, 0, 0, 2, 1, 6);
        chanceOf(1, 1, 0, 2, 1, 2);
        chanceOf(2, 1, 1, 2, 1, 2);
        chanceOf(3, 1, 1, 3, 17, 70);
        chanceOf(9, 0, 0, 0, 1, 1);
        chanceOf(0, 0, 9, 9, 1, 1);
        chanceOf(25, 0, 0, 25, 1, 126410606437752L);
        chanceOf(13, 12, 12, 13, 1, 2);
        chanceOf(5, 1, 0, 6, 1, 132);
        StagedRollout x = running(2, 0, 0);
        due("chance(1, true)", x.chance(1, true), BAD_INDEX);
        due("chance(-1, false)", x.chance(-1, false), BAD_INDEX);
        x.pass(1);
        x.report(0, 0, 9);
        x.report(1, 5, 0);
        x.pass(1);
        due("1 when a stage has begun", x.chance(0, true), 1);
    }

    private static void has() {
        promise = 25;
        StagedRollout x = with(3, 2);
        x.addStage(0, 5, 0, 0);
        x.addStage(1, 1, 0, 0);
        x.addStage(1, 2, 0, 0);
        x.start(0);
        x.start(1);
        due("before a stage begins", x.has(0), 0);
        x.pass(1);
        due("has(0)", x.has(0), 3);
        due("has(1)", x.has(1), 0);
        due("has(2)", x.has(2), 1);
        x.pass(1);
        due("DONE keeps it", x.has(2), 1);
        due("has(1)", x.has(1), 2);
        x.turnBack(1);
        x.pass(1);
        due("turned back", x.has(1), 0);
        due("has(3)", x.has(3), BAD_INDEX);
        due("has(-1)", x.has(-1), BAD_INDEX);
        due("has(32)", x.has(32), BAD_INDEX);
    }

    private static void isFrozen() {
        promise = 26;
        StagedRollout x = new StagedRollout();
        x.freeze(10, 12);
        x.freeze(11, 14);
        due("isFrozen(9)", x.isFrozen(9), 0);
        due("isFrozen(10)", x.isFrozen(10), 1);
        due("isFrozen(13)", x.isFrozen(13), 1);
        due("isFrozen(14)", x.isFrozen(14), 0);
        for (int hour : new int[] {-1, 168, LEAST, MOST}) {
            due("isFrozen(" + hour + ")", x.isFrozen(hour), BAD_VALUE);
        }
        due("isFrozen(167)", x.isFrozen(167), 0);
        due("isFrozen(0)", x.isFrozen(0), 0);
    }

    /** Six stages that wait 48 hours, and after them a change whose stages wait so long together. */
    private static StagedRollout twoLong(int lastWait) {
        StagedRollout x = running(8, 48, 48, 48, 48, 48, 48);
        x.addChange(false);
        x.addStage(1, 1, 48, 0);
        x.addStage(1, 2, 48, 0);
        x.addStage(1, 4, lastWait, 0);
        x.putAfter(1, 0);
        x.start(1);
        return x;
    }

    private static void forecast() {
        promise = 27;
        due("400 hours", twoLong(15).forecast(1), 400);
        due("401 hours", twoLong(16).forecast(1), NONE);
        due("the first one", twoLong(16).forecast(0), 289);
        StagedRollout x = running(4, 2, 0, 1);
        long before = x.checksum();
        due("forecast(0)", x.forecast(0), 5);
        due("nothing has changed", x.checksum(), before);
        due("forecast(1)", x.forecast(1), BAD_INDEX);
        due("forecast(-1)", x.forecast(-1), BAD_INDEX);
        x.pass(2);
        due("forecast(0) after 2 hours", x.forecast(0), 3);
        x.hold(0);
        due("HELD", x.forecast(0), NONE);
        x.resume(0);
        x.pass(3);
        due("DONE already", x.forecast(0), 0);
        x.turnBack(0);
        due("three stages back", x.forecast(0), 3);
        x.pass(3);
        due("TURNED already", x.forecast(0), 0);
        due("PLANNED", with(4, 1).forecast(0), NONE);
        StagedRollout none = running(4, 0);
        none.turnBack(0);
        due("TURNING without begun stages", none.forecast(0), 1);
        StagedRollout frozen = running(2, 0, 0);
        frozen.freeze(0, 100);
        due("frozen hours", frozen.forecast(0), 103);
        frozen.freeze(101, 168);
        due("frozen to the next week", frozen.forecast(0), 270);
        frozen.freeze(100, 101);
        due("frozen for good", frozen.forecast(0), NONE);
    }

    private static void forecastIgnoresProbes() {
        StagedRollout x = with(2, 2);
        x.addStage(0, 1, 0, 25);
        x.addStage(0, 2, 3, 25);
        x.addStage(1, 1, 0, 25);
        x.putAfter(1, 0);
        x.start(0);
        x.start(1);
        due("no change lacks samples", x.forecast(1), 6);
        x.setLimit(1000);
        due("no chance is bad", x.forecast(1), 6);
        x.pass(1);
        x.hold(0);
        due("no chance is bad when HELD", x.forecast(0), NONE);
        due("the forecast left nothing behind", x.pass(1), 1);
        due("is", x.change(0, 0), StagedRollout.TURNING);
        due("after one that turns", x.forecast(1), NONE);
        x.setLimit(0);
        StagedRollout risky = with(2, 0);
        risky.addChange(true);
        risky.addChange(true);
        risky.addStage(0, 1, 7, 0);
        risky.addStage(1, 1, 0, 0);
        risky.start(0);
        risky.start(1);
        due("waits for the other risk", risky.forecast(1), 9);
    }

    private static void entries() {
        promise = 28;
        StagedRollout x = running(4, 0);
        for (int i = 1; i <= 12; i++) {
            x.hold(0);
            x.resume(0);
            due("entries()", x.entries(), Math.min(2 * i, 20));
        }
    }

    private static void entry() {
        promise = 29;
        StagedRollout x = running(4, 0);
        due("an empty log", x.entry(0, 0), BAD_INDEX);
        for (int i = 0; i < 11; i++) {
            x.hold(0);
            x.pass(1);
            x.resume(0);
        }
        due("oldest: time", x.entry(0, 0), 1);
        due("oldest: event", x.entry(0, 2), 6);
        due("second: time", x.entry(1, 0), 2);
        due("second: event", x.entry(1, 2), 7);
        due("newest: time", x.entry(19, 0), 11);
        due("newest: event", x.entry(19, 2), 7);
        due("newest: stage", x.entry(19, 3), NONE);
        due("entry(20, 0)", x.entry(20, 0), BAD_INDEX);
        due("entry(-1, 9)", x.entry(-1, 9), BAD_INDEX);
        due("entry(MOST, 0)", x.entry(MOST, 0), BAD_INDEX);
        due("entry(0, 4)", x.entry(0, 4), BAD_VALUE);
        due("entry(0, -1)", x.entry(0, -1), BAD_VALUE);
        StagedRollout y = with(4, 4);
        y.addStage(3, 1, 0, 0);
        y.addStage(3, 2, 0, 0);
        y.start(3);
        y.pass(2);
        y.turnBack(3);
        y.pass(2);
        int[] want = {0, 3, 1, 0, 1, 3, 1, 1, 2, 3, 3, NONE, 2, 3, 4, 1, 3, 3, 4, 0, 3, 3, 5, NONE};
        for (int i = 0; i < 24; i++) {
            due("entry(" + i / 4 + ", " + i % 4 + ")", y.entry(i / 4, i % 4), want[i]);
        }
    }

    private static void count() {
        promise = 30;
        StagedRollout x = with(4, 3);
        for (int i = 0; i < 2; i++) {
            x.addStage(i, 1, 0, 0);
            x.addStage(i, 2, 0, 0);
            x.start(i);
        }
        x.pass(3);
        x.turnBack(0);
        x.pass(2);
        due("count(1, -1)", x.count(1, -1), 4);
        due("count(1, 0)", x.count(1, 0), 2);
        due("count(2, 1)", x.count(2, 1), 1);
        due("count(3, 0)", x.count(3, 0), 1);
        due("count(3, 1)", x.count(3, 1), 0);
        due("count(4, -1)", x.count(4, -1), 2);
        due("count(5, 0)", x.count(5, 0), 1);
        due("count(6, -1)", x.count(6, -1), 0);
        due("count(7, 2)", x.count(7, 2), 0);
        due("count(1, 3)", x.count(1, 3), BAD_INDEX);
        due("count(1, -2)", x.count(1, -2), BAD_INDEX);
        due("count(0, -2)", x.count(0, -2), BAD_VALUE);
        due("count(8, 0)", x.count(8, 0), BAD_VALUE);
        due("count(-1, 0)", x.count(-1, 0), BAD_VALUE);
        StagedRollout lost = running(4, 0);
        for (int i = 0; i < 15; i++) {
            lost.hold(0);
            lost.resume(0);
        }
        due("only those that are there", lost.count(6, -1), 10);
    }

    private static void save() {
        promise = 31;
        StagedRollout x = running(4, 0, 0);
        x.pass(1);
        due("save(0)", x.save(0), 1);
        due("save(2)", x.save(2), BAD_INDEX);
        due("save(-1)", x.save(-1), BAD_INDEX);
        due("save(MOST)", x.save(MOST), BAD_INDEX);
        due("the other slot", x.restore(1), NOT_POSSIBLE);
        x.pass(4);
        due("save(0) again", x.save(0), 5);
        x.pass(2);
        due("in place of what it kept", x.restore(0), 5);
    }

    private static void restore() {
        promise = 32;
        StagedRollout x = running(6, 0, 3);
        x.addChange(true);
        x.addStage(1, 63, 4, 5);
        x.setLimit(3);
        x.freeze(90, 91);
        x.pass(2);
        x.report(0, 1, 2);
        x.hold(0);
        write(x, "0:");
        x.save(1);
        long before = x.checksum();
        x.setLimit(600);
        x.freeze(1, 2);
        x.resume(0);
        x.pass(9);
        x.start(1);
        x.begin(2);
        x.addChange(true);
        x.append(49);
        due("restore(2)", x.restore(2), BAD_INDEX);
        due("restore(-1)", x.restore(-1), BAD_INDEX);
        due("restore(0)", x.restore(0), NOT_POSSIBLE);
        for (int i = 0; i < 2; i++) {
            due("restore(1)", x.restore(1), 2);
            due("checksum()", x.checksum(), before);
            due("the limit", x.setLimit(600), 3);
            due("the cells", x.has(5), 0);
            due("the plan", x.stage(1, 0, 0) + x.stage(1, 0, 1) + x.stage(1, 0, 2), 72);
            due("isFrozen(90)", x.isFrozen(90), 1);
            due("the frozen spans", x.thaw(), 1);
            due("the text stays", x.faultPosition(), 3);
            x.resume(0);
            x.addStage(1, 1, 1, 1);
            x.pass(50);
            due("it went on", x.change(0, 0), StagedRollout.DONE);
        }
        due("begin(3)", x.begin(3), 6);
        restoreFullLog();
        restoreProbes();
    }

    private static void restoreFullLog() {
        StagedRollout x = running(4, 0);
        for (int i = 0; i < 11; i++) {
            x.hold(0);
            x.pass(1);
            x.resume(0);
        }
        x.hold(0);
        x.save(0);
        long before = x.checksum();
        due("oldest: event", x.entry(0, 2), 7);
        x.begin(4);
        x.restore(0);
        due("checksum() with a full log", x.checksum(), before);
        due("oldest: event", x.entry(0, 2), 7);
        x.resume(0);
        due("the next one drops the oldest", x.entry(0, 2), 6);
        due("newest: event", x.entry(19, 2), 7);
    }

    private static void restoreProbes() {
        StagedRollout x = running(2, 1, 0);
        x.setLimit(0);
        x.pass(1);
        x.report(0, 3, 1);
        x.report(1, 1, 3);
        x.save(0);
        x.begin(2);
        x.addChange(false);
        due("a new change has no probes", x.probes(0, 0) + x.probes(0, 1) + x.probes(0, 2) + x.probes(0, 3), 0);
        due("nor a chance", x.chance(0, true), 1);
        x.restore(0);
        due("bad treated", x.probes(0, 0), 3);
        due("good treated", x.probes(0, 1), 1);
        due("bad control", x.probes(0, 2), 1);
        due("good control", x.probes(0, 3), 3);
        due("numerator", x.chance(0, false), 17);
        due("denominator", x.chance(0, true), 70);
    }

    private static void checksum() {
        promise = 33;
        StagedRollout x = with(1, 0);
        long want = 79;
        for (long value : new long[] {0, 0, 0, 0}) {
            want = 31 * want + value;
        }
        due("an empty fleet of one cell", x.checksum(), want);
        x.addChange(true);
        x.addStage(0, 1, 1, 0);
        x.start(0);
        x.pass(1);
        x.report(0, 0, 4);
        want = 79;
        long[] values = {1, 1, 1, 1, 1, 1, 0, 0, 1, 0, 4, 0, 0, 1, 1, 1, 1, 0, 0, 1, 0};
        for (long value : values) {
            want = 31 * want + value;
        }
        due("a change under way", x.checksum(), want);
        x = running(2, 9);
        x.setLimit(0);
        x.pass(1);
        x.report(0, 2, 0);
        x.report(1, 0, 2);
        want = 79;
        values = new long[] {1, 1, 1, 1, 1, 1, 4, 0, 0, 2, 0, 0, 2, 1, 6, 1, 0, 1, 0, 0, 1, 0};
        for (long value : values) {
            want = 31 * want + value;
        }
        due("the numerator comes first", x.checksum(), want);
    }
}
