import java.util.function.Supplier;
import java.util.function.ToLongFunction;

/** "A call that reports an error changes nothing", and the order of the checks, for each error of each promise. */
public final class RefusedCallsTest extends Boundaries {
    public static void main(String[] args) {
        fleetCalls();
        planCalls();
        textCalls();
        calls();
        questions();
        slotCalls();
        noSuchChange();
        orders();
        noneIsNoError();
        end("refused calls");
    }

    /** Some of everything: changes in five states, probes, spans, a text without fault, a slot in use. */
    private static StagedRollout busy() {
        StagedRollout x = fleet(5);
        x.setLimit(2);
        write(x, "01:2/3;");
        x.freeze(60, 62);
        x.addChange(true);
        x.addStage(0, 1, 0, 0);
        x.start(0);
        x.pass(2);
        x.save(0);
        plan(x, true, 0, 9);
        plan(x, false, 3, 4, 5);
        plan(x, false, 0, 0, 0);
        plan(x, true, 6, 7);
        for (int change = 1; change <= 3; change++) {
            x.start(change);
        }
        x.putAfter(4, 1);
        x.freeze(61, 70);
        x.pass(2);
        x.report(0, 1, 4);
        x.report(4, 0, 5);
        x.hold(2);
        x.turnBack(3);
        return x;
    }

    /** All rooms are full: spans, changes, stages, the text, the log and both slots. */
    private static StagedRollout full() {
        StagedRollout x = fleet(8);
        for (int i = 0; i < 3; i++) {
            x.freeze(90 + i, 91 + i);
        }
        x.addChange(false);
        x.addStage(0, 1, 0, 0);
        x.start(0);
        for (int i = 0; i < 11; i++) {
            x.hold(0);
            x.pass(1);
            x.resume(0);
        }
        x.save(0);
        x.pass(3);
        x.save(1);
        for (int i = 1; i < 4; i++) {
            x.addChange(true);
        }
        plan(x, false, 1, 2, 3, 4, 5, 6);
        write(x, "012345" + ";".repeat(54));
        return x;
    }

    private static void refusedBusy(String what, ToLongFunction<StagedRollout> call, int want) {
        test("A call that reports an error changes nothing.", () -> refused(what, RefusedCallsTest::busy, call, want));
    }

    private static void refusedFull(String what, ToLongFunction<StagedRollout> call, int want) {
        test("A call that reports an error changes nothing.", () -> refused(what, RefusedCallsTest::full, call, want));
    }

    private static void fleetCalls() {
        for (int cells : new int[] {0, 9}) {
            refusedBusy("begin(" + cells + ")", x -> x.begin(cells), BAD_VALUE);
            refusedFull("begin(" + cells + ")", x -> x.begin(cells), BAD_VALUE);
        }
        for (int limit : new int[] {-1, 1001}) {
            refusedBusy("setLimit(" + limit + ")", x -> x.setLimit(limit), BAD_VALUE);
        }
        refusedBusy("freeze(-1, 5)", x -> x.freeze(-1, 5), BAD_VALUE);
        refusedBusy("freeze(168, 169)", x -> x.freeze(168, 169), BAD_VALUE);
        refusedBusy("freeze(5, 5)", x -> x.freeze(5, 5), BAD_VALUE);
        refusedBusy("freeze(5, 169)", x -> x.freeze(5, 169), BAD_VALUE);
        refusedFull("freeze(5, 6)", x -> x.freeze(5, 6), FULL);
    }

    private static void planCalls() {
        refusedFull("addChange(true)", x -> x.addChange(true), FULL);
        refusedFull("addChange(false)", x -> x.addChange(false), FULL);
        refusedBusy("addStage(5, 1, 0, 0)", x -> x.addStage(5, 1, 0, 0), BAD_INDEX);
        refusedBusy("addStage(4, 0, 0, 0)", x -> x.addStage(4, 0, 0, 0), BAD_VALUE);
        refusedBusy("addStage(4, 32, 0, 0)", x -> x.addStage(4, 32, 0, 0), BAD_VALUE);
        refusedBusy("addStage(4, 16, 49, 0)", x -> x.addStage(4, 16, 49, 0), BAD_VALUE);
        refusedBusy("addStage(4, 16, 0, 26)", x -> x.addStage(4, 16, 0, 26), BAD_VALUE);
        refusedBusy("addStage(4, 3, 0, 0)", x -> x.addStage(4, 3, 0, 0), NOT_POSSIBLE);
        for (int change : new int[] {0, 1, 2, 3}) {
            refusedBusy("addStage(" + change + ", 16, 0, 0)", x -> x.addStage(change, 16, 0, 0), NOT_POSSIBLE);
        }
        refusedFull("addStage(4, 64, 0, 0)", x -> x.addStage(4, 64, 0, 0), FULL);
        refusedBusy("putAfter(4, 4)", x -> x.putAfter(4, 4), BAD_INDEX);
        refusedBusy("putAfter(4, -1)", x -> x.putAfter(4, -1), BAD_INDEX);
        refusedBusy("putAfter(5, 0)", x -> x.putAfter(5, 0), BAD_INDEX);
        refusedBusy("putAfter(3, 0)", x -> x.putAfter(3, 0), NOT_POSSIBLE);
    }

    private static void textCalls() {
        refusedBusy("append(-1)", x -> x.append(-1), BAD_VALUE);
        refusedBusy("append(128)", x -> x.append(128), BAD_VALUE);
        refusedFull("append(48)", x -> x.append(48), FULL);
        refusedFull("append(128)", x -> x.append(128), BAD_VALUE);
        refusedBusy("read(5)", x -> x.read(5), BAD_INDEX);
        refusedBusy("read(1)", x -> x.read(1), NOT_POSSIBLE);
        refusedFull("read(4)", x -> x.read(4), NOT_POSSIBLE);
        String[] faulty = {"012:1/1;3:4/26;", "0:1/1;1:1/1;2:1/1;3:1/1;4:1/1;5:1/1;6:1/1;", "0:1/1;7"};
        for (String text : faulty) {
            Supplier<StagedRollout> maker = () -> {
                StagedRollout x = busy();
                write(x, text);
                return x;
            };
            test("NOT_POSSIBLE if the text has a fault", () -> refused("read(4) of " + text, maker, x -> x.read(4), NOT_POSSIBLE));
        }
    }

    private static void calls() {
        for (int change : new int[] {0, 1, 2, 3}) {
            refusedBusy("start(" + change + ")", x -> x.start(change), NOT_POSSIBLE);
        }
        refusedFull("start(1), without stages", x -> x.start(1), NOT_POSSIBLE);
        for (int change : new int[] {0, 2, 3, 4}) {
            refusedBusy("hold(" + change + ")", x -> x.hold(change), NOT_POSSIBLE);
        }
        for (int change : new int[] {0, 1, 3, 4}) {
            refusedBusy("resume(" + change + ")", x -> x.resume(change), NOT_POSSIBLE);
        }
        for (int change : new int[] {3, 4}) {
            refusedBusy("turnBack(" + change + ")", x -> x.turnBack(change), NOT_POSSIBLE);
        }
        for (int change : new int[] {-1, 5}) {
            refusedBusy("start(" + change + ")", x -> x.start(change), BAD_INDEX);
            refusedBusy("hold(" + change + ")", x -> x.hold(change), BAD_INDEX);
            refusedBusy("resume(" + change + ")", x -> x.resume(change), BAD_INDEX);
            refusedBusy("turnBack(" + change + ")", x -> x.turnBack(change), BAD_INDEX);
        }
        refusedBusy("report(5, 1, 1)", x -> x.report(5, 1, 1), BAD_INDEX);
        refusedBusy("report(0, 10, 1)", x -> x.report(0, 10, 1), BAD_VALUE);
        refusedBusy("report(0, 1, -1)", x -> x.report(0, 1, -1), BAD_VALUE);
        refusedBusy("pass(0)", x -> x.pass(0), BAD_VALUE);
        refusedBusy("pass(101)", x -> x.pass(101), BAD_VALUE);
        refusedFull("pass(101)", x -> x.pass(101), BAD_VALUE);
    }

    private static void questions() {
        refusedBusy("stage(4, 2, 0)", x -> x.stage(4, 2, 0), BAD_INDEX);
        refusedBusy("stage(4, 1, 3)", x -> x.stage(4, 1, 3), BAD_VALUE);
        refusedBusy("change(5, 0)", x -> x.change(5, 0), BAD_INDEX);
        refusedBusy("change(0, 7)", x -> x.change(0, 7), BAD_VALUE);
        refusedBusy("probes(5, 0)", x -> x.probes(5, 0), BAD_INDEX);
        refusedBusy("probes(0, 4)", x -> x.probes(0, 4), BAD_VALUE);
        refusedBusy("chance(5, true)", x -> x.chance(5, true), BAD_INDEX);
        refusedBusy("has(5)", x -> x.has(5), BAD_INDEX);
        refusedBusy("isFrozen(168)", x -> x.isFrozen(168), BAD_VALUE);
        refusedBusy("forecast(5)", x -> x.forecast(5), BAD_INDEX);
        refusedBusy("entry(20, 0)", x -> x.entry(20, 0), BAD_INDEX);
        refusedFull("entry(19, 4)", x -> x.entry(19, 4), BAD_VALUE);
        refusedBusy("count(8, 0)", x -> x.count(8, 0), BAD_VALUE);
        refusedBusy("count(1, 5)", x -> x.count(1, 5), BAD_INDEX);
    }

    private static void slotCalls() {
        for (int slot : new int[] {-1, 2}) {
            refusedBusy("save(" + slot + ")", x -> x.save(slot), BAD_INDEX);
            refusedFull("save(" + slot + ")", x -> x.save(slot), BAD_INDEX);
            refusedFull("restore(" + slot + ")", x -> x.restore(slot), BAD_INDEX);
        }
        refusedBusy("restore(1)", x -> x.restore(1), NOT_POSSIBLE);
    }

    private static void noSuch(StagedRollout x, int change) {
        String of = " of the change " + change + " with " + x.changes();
        due("addStage()" + of, x.addStage(change, 1, 0, 0), BAD_INDEX);
        due("putAfter()" + of, x.putAfter(change, 0), BAD_INDEX);
        due("stage()" + of, x.stage(change, 0, 0), BAD_INDEX);
        due("read()" + of, x.read(change), BAD_INDEX);
        due("start()" + of, x.start(change), BAD_INDEX);
        due("hold()" + of, x.hold(change), BAD_INDEX);
        due("resume()" + of, x.resume(change), BAD_INDEX);
        due("turnBack()" + of, x.turnBack(change), BAD_INDEX);
        due("change()" + of, x.change(change, 0), BAD_INDEX);
        due("probes()" + of, x.probes(change, 0), BAD_INDEX);
        due("chance()" + of, x.chance(change, true), BAD_INDEX);
        due("forecast()" + of, x.forecast(change), BAD_INDEX);
        due("count()" + of, x.count(1, change), change == -1 ? 0 : BAD_INDEX);
    }

    private static void noSuchChange() {
        test("There is no such cell, change, stage, entry or slot.", () -> {
            for (int made = 0; made <= 5; made++) {
                StagedRollout x = fleet(4);
                for (int i = 0; i < made; i++) {
                    x.addChange(false);
                }
                for (int change : new int[] {-2, -1, made, made + 1, 32, LEAST, MOST}) {
                    noSuch(x, change);
                }
                due("the last one that there is", made == 0 ? 0 : x.change(made - 1, 0), 0);
            }
        });
        test("There is no such cell, change, stage, entry or slot.", () -> {
            StagedRollout x = inState(DONE);
            x.addChange(false);
            x.begin(4);
            for (int change = 0; change < 2; change++) {
                noSuch(x, change);
            }
        });
    }

    private static void order(String what, StagedRollout x, ToLongFunction<StagedRollout> call, int want) {
        test("Where several can apply, the order of the @return line is the order of the checks.",
            () -> due(what, call.applyAsLong(x), want));
    }

    private static void orders() {
        order("freeze(): BAD_VALUE, FULL", full(), x -> x.freeze(5, 5), BAD_VALUE);
        order("freeze(): FULL", full(), x -> x.freeze(5, 6), FULL);
        order("addStage(): BAD_INDEX, BAD_VALUE", full(), x -> x.addStage(5, 0, 49, 26), BAD_INDEX);
        order("addStage(): BAD_VALUE, NOT_POSSIBLE as it is not PLANNED", full(), x -> x.addStage(0, 2, 49, 0), BAD_VALUE);
        order("addStage(): BAD_VALUE, NOT_POSSIBLE of a cell, FULL", full(), x -> x.addStage(4, 1, 0, 26), BAD_VALUE);
        order("addStage(): BAD_VALUE, FULL", full(), x -> x.addStage(4, 256, 0, 0), BAD_VALUE);
        order("addStage(): NOT_POSSIBLE of a cell, FULL", full(), x -> x.addStage(4, 65, 0, 0), NOT_POSSIBLE);
        order("addStage(): FULL", full(), x -> x.addStage(4, 64, 0, 0), FULL);
        StagedRollout started = full();
        started.start(4);
        order("addStage(): NOT_POSSIBLE as it is not PLANNED, FULL", started, x -> x.addStage(4, 64, 0, 0), NOT_POSSIBLE);
        order("putAfter(): BAD_INDEX, NOT_POSSIBLE", busy(), x -> x.putAfter(3, 3), BAD_INDEX);
        order("putAfter(): BAD_INDEX, NOT_POSSIBLE", busy(), x -> x.putAfter(0, -1), BAD_INDEX);
        order("putAfter(): NOT_POSSIBLE", busy(), x -> x.putAfter(3, 2), NOT_POSSIBLE);
        order("stage(): BAD_INDEX of the change, BAD_VALUE", busy(), x -> x.stage(5, 0, 3), BAD_INDEX);
        order("stage(): BAD_INDEX of the stage, BAD_VALUE", busy(), x -> x.stage(4, 2, 3), BAD_INDEX);
        order("append(): BAD_VALUE, FULL", full(), x -> x.append(-1), BAD_VALUE);
        order("read(): BAD_INDEX, NOT_POSSIBLE of the text", full(), x -> x.read(5), BAD_INDEX);
        order("report(): BAD_INDEX, BAD_VALUE", busy(), x -> x.report(5, 10, -1), BAD_INDEX);
        order("change(): BAD_INDEX, BAD_VALUE", busy(), x -> x.change(5, 7), BAD_INDEX);
        order("probes(): BAD_INDEX, BAD_VALUE", busy(), x -> x.probes(-1, 4), BAD_INDEX);
        order("entry(): BAD_INDEX, BAD_VALUE", full(), x -> x.entry(20, 4), BAD_INDEX);
        order("count(): BAD_VALUE, BAD_INDEX", busy(), x -> x.count(0, 5), BAD_VALUE);
        order("count(): BAD_VALUE, BAD_INDEX", busy(), x -> x.count(8, -2), BAD_VALUE);
        order("restore(): BAD_INDEX, NOT_POSSIBLE", new StagedRollout(), x -> x.restore(2), BAD_INDEX);
    }

    private static void noneIsNoError() {
        test("NONE is not an error and is returned only if no error applies.", () -> {
            StagedRollout x = full();
            due("entry(19, 3)", x.entry(19, 3), NONE);
            due("entry(20, 3)", x.entry(20, 3), BAD_INDEX);
            due("entry(-1, 3)", x.entry(-1, 3), BAD_INDEX);
            due("forecast(4), PLANNED", x.forecast(4), NONE);
            due("forecast(5)", x.forecast(5), BAD_INDEX);
            due("forecast(-1)", x.forecast(-1), BAD_INDEX);
            due("faultPosition()", x.faultPosition(), 6);
            x.clearText();
            due("faultPosition() of the empty text", x.faultPosition(), NONE);
        });
    }
}
