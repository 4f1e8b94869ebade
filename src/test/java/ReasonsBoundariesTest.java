/** The boundary sentences on reasons and on what a change is: promises 22 and 25. */
public final class ReasonsBoundariesTest extends Boundaries {
    public static void main(String[] args) {
        states();
        cellsThatHaveIt();
        whatIsAsked();
        underWay();
        waits();
        samples();
        frozen();
        after();
        risks();
        firstThatApplies();
        end("reasons boundaries");
    }

    private static void reason(String when, StagedRollout x, int change, int want) {
        due("the reason " + when, x.change(change, 4), want);
    }

    private static void states() {
        test("A change is PLANNED (0) at first, then RUNNING (1), HELD (2), DONE (3), TURNING (4) or TURNED (5).", () -> {
            for (int state = PLANNED; state <= TURNED; state++) {
                due("change(0, 0)", inState(state).change(0, 0), state);
            }
        });
        test("Its begun stages are the first ones of its plan, as many as have begun and have not been turned back", () -> {
            StagedRollout x = fleet(8);
            startPlan(x, false, 0, 0, 0, 0, 0, 0);
            for (int begun = 0; begun <= 6; begun++) {
                due("change(0, 2)", x.change(0, 2), begun);
                for (int cell = 0; cell < 8; cell++) {
                    due("has(" + cell + ") with " + begun, x.has(cell), cell < begun ? 1 : 0);
                }
                x.pass(1);
            }
            due("it is DONE", x.change(0, 0), DONE);
            due("its begun stages", x.change(0, 2), 6);
            x.turnBack(0);
            for (int begun = 6; begun >= 0; begun--) {
                due("change(0, 2) when it turns", x.change(0, 2), begun);
                due("the latest one's cell", x.has(Math.max(begun - 1, 0)), begun == 0 ? 0 : 1);
                due("the cell after it", x.has(begun), 0);
                x.pass(1);
            }
        });
    }

    private static void cellsThatHaveIt() {
        test("(So the cells of a change that is DONE have it, and those of one that is PLANNED or TURNED do not.)", () -> {
            int[] first = {0, 1, 1, 1, 1, 0};
            int[] second = {0, 0, 0, 1, 1, 0};
            for (int state = PLANNED; state <= TURNED; state++) {
                StagedRollout x = inState(state);
                due("has(0) in the state " + state, x.has(0), first[state]);
                due("has(1) in the state " + state, x.has(1), second[state]);
                due("has(2) in the state " + state, x.has(2), 0);
            }
        });
        test("Returns the set of the changes that it has, bit i for the change i; BAD_INDEX.", () -> {
            StagedRollout x = fleet(2);
            for (int i = 0; i < 5; i++) {
                x.addChange(false);
                x.addStage(i, i % 2 == 0 ? 1 : 3, 9, 0);
                x.start(i);
            }
            due("no change has begun", x.has(0), 0);
            x.pass(1);
            due("has(0)", x.has(0), 31);
            due("has(1)", x.has(1), 10);
            due("has(2)", x.has(2), BAD_INDEX);
            due("has(-1)", x.has(-1), BAD_INDEX);
        });
    }

    private static void whatIsAsked() {
        test("3 for the hours since the latest of its begun stages began (0 without begun stages)", () -> {
            StagedRollout x = running(4, 2, 48);
            x.freeze(0, 5);
            x.pass(5);
            due("without begun stages", x.change(0, 3), 0);
            x.pass(1);
            due("an hour", x.change(0, 3), 1);
            x.pass(1);
            due("two hours", x.change(0, 3), 2);
            x.pass(1);
            due("an hour since the second one", x.change(0, 3), 1);
            x.pass(100);
            x.turnBack(0);
            due("since the second one", x.change(0, 3), 101);
            x.pass(1);
            due("since the first one, at its own time", x.change(0, 3), 104);
            x.pass(1);
            due("turned back", x.change(0, 3), 0);
            x.pass(1);
            due("TURNED", x.change(0, 3), 0);
        });
        test("5 for the set of the changes that have to be DONE first, 6 for 1 if it is risky and 0 if not", () -> {
            StagedRollout x = fleet(4);
            for (int i = 0; i < 5; i++) {
                x.addChange(i == 4);
            }
            due("an empty set", x.change(4, 5), 0);
            x.putAfter(4, 3);
            due("the highest one", x.change(4, 5), 8);
            x.putAfter(4, 0);
            due("the lowest one too", x.change(4, 5), 9);
            due("risky", x.change(4, 6), 1);
            due("not risky", x.change(3, 6), 0);
        });
        test("Returns this number; BAD_INDEX; BAD_VALUE.", () -> {
            StagedRollout x = inState(RUNNING);
            dueForAll("change(0, _)", what -> x.change(0, what), BAD_VALUE, -1, 7, 8, LEAST, MOST);
            dueForAll("change(_, 0)", change -> x.change(change, 0), BAD_INDEX, -1, 1, 4, 5, LEAST, MOST);
            int[] want = {RUNNING, 2, 1, 1, FREE, 0, 0};
            for (int what = 0; what < 7; what++) {
                due("change(0, " + what + ")", x.change(0, what), want[what]);
            }
        });
    }

    private static void underWay() {
        test("It is under way if it is RUNNING, HELD or TURNING.", () -> {
            int[] want = {NOT_UNDER_WAY, FREE, IS_HELD, NOT_UNDER_WAY, TURNS, NOT_UNDER_WAY};
            for (int state = PLANNED; state <= TURNED; state++) {
                reason("in the state " + state, inState(state), 0, want[state]);
            }
        });
        test("TURNS (2): it is TURNING", () -> {
            StagedRollout x = running(4, 0);
            x.turnBack(0);
            reason("without begun stages", x, 0, TURNS);
            x.pass(1);
            reason("when TURNED", x, 0, NOT_UNDER_WAY);
        });
        test("IS_HELD (3): it is HELD", () -> {
            StagedRollout x = running(4, 0);
            x.hold(0);
            reason("without begun stages", x, 0, IS_HELD);
            x.resume(0);
            reason("when resumed", x, 0, FREE);
        });
    }

    private static void waits() {
        test("fewer hours have passed since the latest of its begun stages began (at its own time) than this stage has to wait", () -> {
            StagedRollout x = running(4, 48, 1, 0);
            reason("without begun stages", x, 0, FREE);
            x.pass(1);
            reason("after 1 of 48 hours", x, 0, WAITS);
            x.pass(46);
            reason("after 47 of 48 hours", x, 0, WAITS);
            x.pass(1);
            reason("after 48 of 48 hours", x, 0, FREE);
            due("the next one begins", x.pass(1), 1);
            reason("after 1 of 1 hours", x, 0, FREE);
            due("the last one begins", x.pass(1), 1);
            reason("after 1 of 0 hours", x, 0, FREE);
            due("it is DONE", x.pass(1), 1);
        });
        test("fewer hours have passed since the latest of its begun stages began (at its own time) than this stage has to wait", () -> {
            StagedRollout x = running(4, 1, 3);
            x.pass(2);
            reason("the second one's own wait counts from its own time", x, 0, WAITS);
            x.hold(0);
            x.pass(1);
            x.resume(0);
            reason("after 2 of 3 hours, one of them held", x, 0, WAITS);
            x.hold(0);
            x.pass(1);
            x.resume(0);
            reason("after 3 of 3 hours, two of them held", x, 0, FREE);
        });
    }

    private static StagedRollout withSamples(int cells, int samples) {
        StagedRollout x = fleet(2);
        x.setLimit(0);
        x.addChange(false);
        x.addStage(0, cells, 0, samples);
        x.start(0);
        return x;
    }

    private static void samples() {
        test("it has a begun stage, and fewer treated probes, or fewer control probes, than this stage has samples", () -> {
            StagedRollout x = withSamples(1, 3);
            reason("without begun stages", x, 0, FREE);
            x.pass(1);
            reason("without probes", x, 0, LACKS_SAMPLES);
            x.report(0, 1, 2);
            reason("without control ones", x, 0, LACKS_SAMPLES);
            x.report(1, 1, 1);
            reason("with 3 and 2", x, 0, LACKS_SAMPLES);
            x.report(1, 0, 1);
            reason("with 3 and 3", x, 0, FREE);
            StagedRollout y = withSamples(1, 3);
            y.pass(1);
            y.report(1, 9, 9);
            reason("without treated ones", y, 0, LACKS_SAMPLES);
            y.report(0, 2, 0);
            reason("with 2 and 18", y, 0, LACKS_SAMPLES);
            y.report(0, 1, 0);
            reason("with 3 and 18", y, 0, FREE);
        });
        test("it has a begun stage, and fewer treated probes, or fewer control probes, than this stage has samples", () -> {
            StagedRollout none = withSamples(1, 0);
            none.pass(1);
            reason("with 0 samples", none, 0, FREE);
            StagedRollout most = withSamples(1, 25);
            most.pass(1);
            report(most, 0, 0, 25);
            report(most, 1, 0, 24);
            reason("with 25 and 24 of 25", most, 0, LACKS_SAMPLES);
            most.report(1, 1, 0);
            reason("with 25 and 25 of 25", most, 0, FREE);
        });
        test("it has a begun stage, and fewer treated probes, or fewer control probes, than this stage has samples", () -> {
            StagedRollout x = fleet(4);
            x.addChange(false);
            x.addStage(0, 1, 0, 0);
            x.addStage(0, 2, 0, 1);
            x.addStage(0, 4, 0, 0);
            x.start(0);
            x.pass(1);
            reason("of the first one, which asks for none", x, 0, FREE);
            x.pass(1);
            reason("of the second one, which asks for one", x, 0, LACKS_SAMPLES);
            x.report(0, 0, 1);
            x.report(3, 0, 1);
            x.pass(1);
            reason("of the third one, which asks for none", x, 0, FREE);
        });
        test("(control probes are not asked for if all cells of the fleet have the change)", () -> {
            StagedRollout x = withSamples(3, 2);
            x.pass(1);
            reason("without probes", x, 0, LACKS_SAMPLES);
            x.report(0, 0, 1);
            reason("with 1 treated", x, 0, LACKS_SAMPLES);
            x.report(1, 0, 1);
            reason("with 2 treated", x, 0, FREE);
            due("control", control(x, 0), 0);
        });
        test("(control probes are not asked for if all cells of the fleet have the change)", () -> {
            for (int cells = 3; cells <= 4; cells++) {
                StagedRollout x = fleet(cells);
                x.addChange(false);
                x.addStage(0, 1, 0, 0);
                x.addStage(0, 6, 0, 1);
                x.start(0);
                x.pass(2);
                x.report(2, 0, 1);
                reason("with stages of 3 cells of " + cells, x, 0, cells == 3 ? FREE : LACKS_SAMPLES);
            }
            StagedRollout one = fleet(1);
            one.addChange(false);
            one.addStage(0, 1, 0, 1);
            one.start(0);
            one.pass(1);
            one.report(0, 0, 1);
            reason("with the one cell", one, 0, FREE);
        });
        test("(control probes are not asked for if all cells of the fleet have the change)", () -> {
            StagedRollout x = fleet(2);
            x.addChange(false);
            x.addStage(0, 1, 0, 1);
            x.addStage(0, 2, 0, 0);
            x.start(0);
            x.pass(1);
            x.report(0, 0, 1);
            reason("when the other cell is in a stage to come", x, 0, LACKS_SAMPLES);
        });
    }

    private static void frozen() {
        test("the hour of the week is its remainder by 168.", () -> {
            StagedRollout x = running(4, 0, 0);
            x.freeze(0, 1);
            x.freeze(167, 168);
            x.hold(0);
            int[] times = {0, 1, 166, 167, 168, 169, 334, 335, 336, 337};
            boolean[] isFrozen = {true, false, false, true, true, false, false, true, true, false};
            for (int i = 0; i < times.length; i++) {
                for (int left = times[i] - x.time(); left > 0; left -= 100) {
                    x.pass(Math.min(left, 100));
                }
                x.resume(0);
                reason("at the time " + times[i], x, 0, isFrozen[i] ? FROZEN : FREE);
                x.hold(0);
            }
        });
        test("it has a further stage, and the hour of the week of the present time is frozen", () -> {
            StagedRollout x = running(4, 0, 0);
            x.freeze(2, 4);
            reason("at 0", x, 0, FREE);
            x.pass(1);
            reason("at 1", x, 0, FREE);
            x.hold(0);
            x.pass(1);
            x.resume(0);
            reason("at 2, with a further stage", x, 0, FROZEN);
            due("no stage begins", x.pass(1), 0);
            reason("at 3", x, 0, FROZEN);
            due("no stage begins", x.pass(1), 0);
            reason("at 4", x, 0, FREE);
            due("a stage begins", x.pass(1), 1);
            x.freeze(5, 6);
            reason("without a further stage", x, 0, FREE);
            due("it is DONE in a frozen hour", x.pass(1), 1);
        });
        test("it has a further stage, and the hour of the week of the present time is frozen", () -> {
            StagedRollout x = running(4, 0);
            x.freeze(0, 1);
            reason("without begun stages", x, 0, FROZEN);
            x.thaw();
            reason("when thawed", x, 0, FREE);
            x.freeze(1, 168);
            reason("before the frozen hours", x, 0, FREE);
            x.freeze(0, 168);
            reason("with hours frozen twice", x, 0, FROZEN);
        });
    }

    private static void after() {
        test("it has no begun stage, and one that has to be DONE first is not DONE", () -> {
            for (int state = PLANNED; state <= TURNED; state++) {
                StagedRollout x = inState(state);
                plan(x, false, 0);
                x.putAfter(1, 0);
                x.start(1);
                reason("after one in the state " + state, x, 1, state == DONE ? FREE : IS_AFTER);
            }
        });
        test("A change can have others that have to be DONE first.", () -> {
            StagedRollout x = fleet(4);
            for (int i = 0; i < 4; i++) {
                plan(x, false, 0);
            }
            plan(x, false, 0);
            for (int i = 0; i < 4; i++) {
                x.putAfter(4, i);
            }
            x.start(4);
            for (int i = 3; i >= 0; i--) {
                reason("with " + (3 - i) + " of 4 DONE", x, 4, IS_AFTER);
                x.start(i);
                x.pass(1);
                due("DONE, and the last one begins when all are", x.pass(1), i == 0 ? 2 : 1);
            }
            due("it has begun", x.change(4, 2), 1);
        });
        test("it has no begun stage, and one that has to be DONE first is not DONE", () -> {
            StagedRollout x = inState(DONE);
            plan(x, false, 0, 0);
            x.putAfter(1, 0);
            x.start(1);
            x.turnBack(0);
            reason("when the first one turns, without begun stages", x, 1, IS_AFTER);
            x.pass(9);
            due("it never begins", x.change(1, 2), 0);
            StagedRollout y = inState(DONE);
            plan(y, false, 0, 0);
            y.putAfter(1, 0);
            y.start(1);
            y.pass(1);
            y.turnBack(0);
            reason("when the first one turns, with a begun stage", y, 1, FREE);
            y.pass(2);
            due("it goes on", y.change(1, 0), DONE);
        });
    }

    /** A risky change 1 that is started, beside a change 0 that the maker brings somewhere. */
    private static StagedRollout besides(boolean otherRisky, boolean risky, int state) {
        StagedRollout x = fleet(4);
        plan(x, otherRisky, 0, 0);
        plan(x, risky, 0, 0);
        bring(x, 0, state);
        x.start(1);
        return x;
    }

    private static void risks() {
        test("another risky change is under way and has a begun stage", () -> {
            int[] want = {FREE, OTHER_RISK, OTHER_RISK, FREE, OTHER_RISK, FREE};
            for (int state = PLANNED; state <= TURNED; state++) {
                reason("beside a risky one in the state " + state, besides(true, true, state), 1, want[state]);
                reason("beside one not risky in the state " + state, besides(false, true, state), 1, FREE);
            }
        });
        test("another risky change is under way and has a begun stage", () -> {
            StagedRollout x = fleet(4);
            startPlan(x, true, 0, 0);
            startPlan(x, true, 0, 0);
            reason("beside one RUNNING without begun stages", x, 1, FREE);
            reason("the other way round", x, 0, FREE);
            x.hold(0);
            reason("beside one HELD without begun stages", x, 1, FREE);
            x.turnBack(0);
            reason("beside one TURNING without begun stages", x, 1, FREE);
        });
        test("it is risky and has no begun stage", () -> {
            for (int state = PLANNED; state <= TURNED; state++) {
                reason("when not risky, beside one in the state " + state, besides(true, false, state), 1, FREE);
            }
            StagedRollout x = besides(true, true, DONE);
            x.pass(1);
            x.turnBack(0);
            reason("with a begun stage, beside one that turns", x, 1, FREE);
            due("a second stage begins, one of the other is turned back", x.pass(1), 2);
            due("both have begun stages", 10 * x.change(0, 2) + x.change(1, 2), 12);
        });
        test("it is risky and has no begun stage", () -> {
            StagedRollout x = fleet(4);
            plan(x, true, 0, 0);
            startPlan(x, true, 9, 0);
            x.pass(1);
            x.start(0);
            reason("beside a risky one with a higher number", x, 0, OTHER_RISK);
            due("it does not begin", x.pass(5) + x.change(0, 2), 0);
            reason("of the other one, which has begun", x, 1, WAITS);
        });
    }

    private static void firstThatApplies() {
        test("The reason why a change does not go on is the first one of these that applies", () -> {
            StagedRollout x = fleet(2);
            x.setLimit(0);
            plan(x, false, 0);
            x.addChange(true);
            x.addStage(1, 1, 0, 0);
            x.addStage(1, 2, 5, 5);
            startPlan(x, true, 48);
            x.putAfter(1, 0);
            x.pass(1);
            x.freeze(0, 168);
            reason("PLANNED, frozen, after, other risk", x, 1, NOT_UNDER_WAY);
            x.start(1);
            x.hold(1);
            reason("HELD, frozen, after, other risk", x, 1, IS_HELD);
            x.resume(1);
            reason("frozen, after, other risk", x, 1, FROZEN);
            x.thaw();
            reason("after, other risk", x, 1, IS_AFTER);
            x.start(0);
            x.pass(2);
            reason("other risk", x, 1, OTHER_RISK);
            x.hold(1);
            x.pass(100);
            x.resume(1);
            reason("none", x, 1, FREE);
        });
        test("The reason why a change does not go on is the first one of these that applies", () -> {
            StagedRollout x = fleet(4);
            x.setLimit(0);
            x.addChange(false);
            x.addStage(0, 1, 2, 1);
            x.addStage(0, 2, 0, 0);
            x.start(0);
            x.pass(1);
            x.freeze(0, 168);
            reason("waits, lacks samples, frozen", x, 0, WAITS);
            x.hold(0);
            reason("HELD, waits, lacks samples, frozen", x, 0, IS_HELD);
            x.resume(0);
            x.pass(1);
            reason("lacks samples, frozen", x, 0, LACKS_SAMPLES);
            x.report(0, 0, 1);
            x.report(1, 0, 1);
            reason("frozen", x, 0, FROZEN);
            x.turnBack(0);
            reason("TURNING, frozen", x, 0, TURNS);
            x.pass(1);
            reason("TURNED, frozen", x, 0, NOT_UNDER_WAY);
        });
    }
}
