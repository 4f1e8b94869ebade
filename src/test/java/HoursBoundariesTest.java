/** The boundary sentences on what is done, on hours, forecasts and the log: promises 15 to 18, 20, 21, 27 to 30. */
public final class HoursBoundariesTest extends Boundaries {
    public static void main(String[] args) {
        starts();
        holdsAndResumes();
        turnsBack();
        hours();
        order();
        badChances();
        turning();
        goingOn();
        forecasts();
        forecastConditions();
        logOfEvents();
        logOfTwenty();
        counts();
        end("hours boundaries");
    }

    private static void starts() {
        test("Starts a change: it is RUNNING (no stage begins yet).", () -> {
            StagedRollout x = running(4, 0);
            due("change(0, 0)", x.change(0, 0), RUNNING);
            due("change(0, 2)", x.change(0, 2), 0);
            due("has(0)", x.has(0), 0);
            due("the log gets no entry", x.entries(), 0);
        });
        test("NOT_POSSIBLE if it is not PLANNED, or has no stages.", () -> {
            for (int state = PLANNED; state <= TURNED; state++) {
                due("start() in the state " + state, inState(state).start(0), state == PLANNED ? 2 : NOT_POSSIBLE);
            }
            StagedRollout x = fleet(8);
            x.addChange(false);
            due("start() without stages", x.start(0), NOT_POSSIBLE);
            x.addStage(0, 1, 0, 0);
            due("start() with one stage", x.start(0), 1);
            plan(x, false, 0, 0, 0, 0, 0, 0);
            due("start() with six stages", x.start(1), 6);
            dueForAll("start()", x::start, BAD_INDEX, -1, 2, 5, LEAST, MOST);
        });
    }

    private static void holdsAndResumes() {
        test("NOT_POSSIBLE if it is not RUNNING.", () -> {
            for (int state = PLANNED; state <= TURNED; state++) {
                due("hold() in the state " + state, inState(state).hold(0), state == RUNNING ? 1 : NOT_POSSIBLE);
            }
            StagedRollout x = running(4, 0);
            due("hold() without begun stages", x.hold(0), 0);
            due("hold() again", x.hold(0), NOT_POSSIBLE);
            dueForAll("hold()", x::hold, BAD_INDEX, -1, 1, 5, LEAST, MOST);
            due("nothing goes on", x.pass(100), 0);
        });
        test("NOT_POSSIBLE if it is not HELD.", () -> {
            for (int state = PLANNED; state <= TURNED; state++) {
                due("resume() in the state " + state, inState(state).resume(0), state == HELD ? 1 : NOT_POSSIBLE);
            }
            StagedRollout x = running(4, 0);
            x.hold(0);
            due("resume() without begun stages", x.resume(0), 0);
            due("resume() again", x.resume(0), NOT_POSSIBLE);
            dueForAll("resume()", x::resume, BAD_INDEX, -1, 1, 5, LEAST, MOST);
            due("change(0, 0)", x.change(0, 0), RUNNING);
            due("it goes on", x.pass(1), 1);
        });
    }

    private static void turnsBack() {
        test("NOT_POSSIBLE if it is not RUNNING, HELD or DONE.", () -> {
            int[] want = {NOT_POSSIBLE, 1, 1, 2, NOT_POSSIBLE, NOT_POSSIBLE};
            for (int state = PLANNED; state <= TURNED; state++) {
                due("turnBack() in the state " + state, inState(state).turnBack(0), want[state]);
            }
            StagedRollout x = running(4, 0);
            due("turnBack() without begun stages", x.turnBack(0), 0);
            due("turnBack() again", x.turnBack(0), NOT_POSSIBLE);
            dueForAll("turnBack()", x::turnBack, BAD_INDEX, -1, 1, 5, LEAST, MOST);
        });
        test("Turns a change back: it is TURNING.", () -> {
            StagedRollout x = inState(DONE);
            x.turnBack(0);
            due("change(0, 0)", x.change(0, 0), TURNING);
            due("no stage is turned back yet", x.change(0, 2), 2);
            due("has(1)", x.has(1), 1);
        });
    }

    private static void hours() {
        test("`hours`: 1 to 100", () -> {
            StagedRollout x = new StagedRollout();
            due("pass(1)", x.pass(1), 0);
            due("time()", x.time(), 1);
            due("pass(100)", x.pass(100), 0);
            due("time()", x.time(), 101);
            dueForAll("pass()", x::pass, BAD_VALUE, 0, -1, 101, LEAST, MOST);
            due("time()", x.time(), 101);
        });
        test("Then the time is greater by 1.", () -> {
            StagedRollout x = running(4, 0, 0);
            for (int time = 0; time < 9; time++) {
                due("time()", x.time(), time);
                x.pass(1);
            }
        });
        test("so one hour has passed since it began when the hour has passed.", () -> {
            StagedRollout x = running(4, 1, 1);
            x.pass(1);
            due("hours since", x.change(0, 3), 1);
            entryIs(x, 0, 0, 0, 1, 0);
            due("a wait of 1 is over", x.pass(1), 1);
            entryIs(x, 1, 1, 0, 1, 1);
        });
        test("Returns the number of entries that the log got (also of those that it lost again); BAD_VALUE.", () -> {
            StagedRollout x = fleet(6);
            for (int i = 0; i < 5; i++) {
                startPlan(x, false, 0, 0, 0, 0, 0, 0);
            }
            due("30 stages and 5 DONE", x.pass(100), 35);
            due("entries()", x.entries(), 20);
            due("none", x.pass(100), 0);
            due("entries()", x.entries(), 20);
            for (int i = 0; i < 5; i++) {
                x.turnBack(i);
            }
            due("5 an hour", x.pass(1), 5);
            due("the rest", x.pass(100), 30);
            due("entries()", x.entries(), 20);
        });
    }

    private static void order() {
        test("the changes are gone through in the order of their numbers", () -> {
            StagedRollout x = fleet(4);
            for (int i = 0; i < 5; i++) {
                plan(x, false, 0);
            }
            for (int i = 4; i >= 0; i--) {
                x.start(i);
            }
            x.pass(1);
            for (int i = 0; i < 5; i++) {
                entryIs(x, i, 0, i, 1, 0);
            }
        });
        test("(what happens to one counts for those after it in the same hour)", () -> {
            StagedRollout x = fleet(4);
            startPlan(x, false, 0);
            plan(x, false, 0);
            x.putAfter(1, 0);
            x.start(1);
            x.pass(1);
            due("0 is DONE and 1 begins", x.pass(1), 2);
            entryIs(x, 1, 1, 0, 2, NONE);
            entryIs(x, 2, 1, 1, 1, 0);
        });
        test("(what happens to one counts for those after it in the same hour)", () -> {
            StagedRollout x = fleet(4);
            startPlan(x, true, 0);
            startPlan(x, true, 0);
            due("0 begins, so 1 does not", x.pass(1), 1);
            due("0 is DONE, so 1 begins", x.pass(1), 2);
            due("change(1, 2)", x.change(1, 2), 1);
            x.turnBack(0);
            startPlan(x, true, 0);
            due("0 is TURNED, 1 is DONE, 2 begins", x.pass(1), 4);
            due("change(2, 2)", x.change(2, 2), 1);
        });
        test("(what happens to one counts for those after it in the same hour)", () -> {
            StagedRollout x = fleet(4);
            plan(x, true, 0);
            startPlan(x, true, 0);
            x.pass(1);
            x.start(0);
            due("1 is DONE, but 0 came before it", x.pass(1), 1);
            due("change(0, 2)", x.change(0, 2), 0);
            due("0 begins an hour later", x.pass(1), 1);
        });
    }

    private static void badChances() {
        test("if it is RUNNING or HELD, has a begun stage, and its chance is bad, it is TURNING from now on", () -> {
            int[] want = {PLANNED, TURNING, TURNING, DONE, TURNING, TURNED};
            int[] entries = {0, 1, 1, 0, 1, 0};
            for (int state = PLANNED; state <= TURNED; state++) {
                StagedRollout x = inState(state);
                x.setLimit(1000);
                due("pass(1) in the state " + state, x.pass(1), entries[state]);
                due("what it is", x.change(0, 0), want[state]);
            }
        });
        test("if it is RUNNING or HELD, has a begun stage, and its chance is bad, it is TURNING from now on", () -> {
            StagedRollout x = running(4, 0);
            x.setLimit(1000);
            x.hold(0);
            due("HELD without begun stages", x.pass(9), 0);
            due("what it is", x.change(0, 0), HELD);
            x.resume(0);
            due("RUNNING without begun stages", x.pass(1), 1);
            due("its stage begins", x.change(0, 2), 1);
        });
        test("and nothing else happens to it in this hour", () -> {
            StagedRollout x = inState(RUNNING);
            x.setLimit(1000);
            due("one entry", x.pass(1), 1);
            entryIs(x, 1, 1, 0, 3, NONE);
            due("no stage began, and none was turned back", x.change(0, 2), 1);
            StagedRollout last = running(4, 0);
            last.pass(1);
            last.setLimit(1000);
            due("with no further stage", last.pass(1), 1);
            due("it is not DONE", last.change(0, 0), TURNING);
            due("its begun stages", last.change(0, 2), 1);
        });
    }

    private static void turning() {
        test("if it is TURNING already, its latest begun stage is turned back: it is not begun any more", () -> {
            StagedRollout x = running(4, 0, 0, 48);
            x.pass(3);
            x.freeze(0, 168);
            x.turnBack(0);
            due("one stage an hour, in frozen hours too", x.pass(1), 1);
            entryIs(x, 4, 3, 0, 4, 2);
            due("begun stages", x.change(0, 2), 2);
            due("has(2)", x.has(2), 0);
            due("has(1)", x.has(1), 1);
            due("the next one", x.pass(1), 1);
            entryIs(x, 5, 4, 0, 4, 1);
            due("still TURNING", x.change(0, 0), TURNING);
        });
        test("if no stage is begun then (or none was), the change is TURNED, in the same hour", () -> {
            StagedRollout x = running(4, 48);
            x.pass(1);
            x.turnBack(0);
            due("BACK and TURNED", x.pass(1), 2);
            entryIs(x, 2, 1, 0, 4, 0);
            entryIs(x, 3, 1, 0, 5, NONE);
            due("what it is", x.change(0, 0), TURNED);
            StagedRollout none = running(4, 48);
            none.turnBack(0);
            due("TURNED alone", none.pass(1), 1);
            entryIs(none, 1, 0, 0, 5, NONE);
            due("what it is", none.change(0, 0), TURNED);
            due("nothing more", none.pass(100), 0);
        });
    }

    private static void goingOn() {
        test("if it is RUNNING and its reason is FREE, its next stage begins: its probes are 0 then", () -> {
            StagedRollout x = running(4, 0, 0);
            x.pass(1);
            x.report(0, 1, 2);
            x.report(1, 3, 4);
            x.pass(1);
            for (int what = 0; what < 4; what++) {
                due("probes(0, " + what + ")", x.probes(0, what), 0);
            }
        });
        test("if it has no further stage, it is DONE instead.", () -> {
            StagedRollout x = running(8, 0, 0, 0, 0, 0, 0);
            for (int begun = 1; begun <= 6; begun++) {
                x.pass(1);
                due("begun", x.change(0, 2), begun);
                due("not DONE in the hour of its last stage", x.change(0, 0), RUNNING);
            }
            x.report(0, 0, 9);
            due("pass(1)", x.pass(1), 1);
            due("DONE in the next hour", x.change(0, 0), DONE);
            due("its probes are not 0 then", treated(x, 0), 9);
            due("nothing more", x.pass(100), 0);
        });
    }

    /** Six stages of 48 hours, and a change after them whose three stages wait 48, 48 and this long. */
    private static StagedRollout twoLong(int lastWait) {
        StagedRollout x = running(8, 48, 48, 48, 48, 48, 48);
        plan(x, false, 48, 48, lastWait);
        x.putAfter(1, 0);
        x.start(1);
        return x;
    }

    private static void forecasts() {
        test("NONE if it is not so after 400 hours.", () -> {
            due("399 hours", twoLong(14).forecast(1), 399);
            due("400 hours", twoLong(15).forecast(1), 400);
            due("401 hours", twoLong(16).forecast(1), NONE);
            StagedRollout x = twoLong(16);
            x.pass(1);
            due("401 hours, after one of them", x.forecast(1), 400);
            due("PLANNED", inState(PLANNED).forecast(0), NONE);
            due("HELD", inState(HELD).forecast(0), NONE);
        });
        test("Returns the smallest number of hours that pass until it is DONE or TURNED", () -> {
            StagedRollout x = running(4, 2, 0, 1);
            for (int left = 5; left >= 0; left--) {
                due("forecast(0)", x.forecast(0), left);
                due("is it DONE", x.change(0, 0) == DONE ? 1 : 0, left == 0 ? 1 : 0);
                x.pass(1);
            }
            x.turnBack(0);
            for (int left = 3; left >= 0; left--) {
                due("forecast(0) when it turns", x.forecast(0), left);
                due("is it TURNED", x.change(0, 0) == TURNED ? 1 : 0, left == 0 ? 1 : 0);
                x.pass(1);
            }
        });
        test("0 if it is so already", () -> {
            due("DONE", inState(DONE).forecast(0), 0);
            due("TURNED", inState(TURNED).forecast(0), 0);
            StagedRollout none = running(4, 0);
            none.turnBack(0);
            due("TURNING without begun stages", none.forecast(0), 1);
            dueForAll("forecast()", none::forecast, BAD_INDEX, -1, 1, 5, LEAST, MOST);
        });
        test("without changing anything", () -> {
            StagedRollout x = running(4, 2, 0, 1);
            startPlan(x, true, 3);
            long before = x.checksum();
            due("forecast(0)", x.forecast(0), 5);
            due("forecast(1)", x.forecast(1), 4);
            due("forecast(0) again", x.forecast(0), 5);
            due("checksum()", x.checksum(), before);
            due("time()", x.time(), 0);
            due("entries()", x.entries(), 0);
            due("pass(5)", x.pass(5), 6);
        });
    }

    private static void forecastConditions() {
        test("for this, from the present hour on, no change lacks samples, and no chance is bad.", () -> {
            StagedRollout x = fleet(2);
            x.addChange(false);
            x.addStage(0, 1, 0, 25);
            x.addStage(0, 2, 3, 25);
            x.start(0);
            plan(x, false, 0);
            x.putAfter(1, 0);
            x.start(1);
            due("samples are lacking", x.forecast(0), 5);
            due("for another one, too", x.forecast(1), 6);
            x.setLimit(1000);
            due("every chance is bad", x.forecast(0), 5);
            x.pass(1);
            due("also the present one", x.forecast(0), 4);
            x.pass(1);
            due("it turns already", x.forecast(0), 1);
            due("so the other one never begins", x.forecast(1), NONE);
        });
        test("for this, from the present hour on, no change lacks samples, and no chance is bad.", () -> {
            StagedRollout x = inState(HELD);
            x.setLimit(1000);
            due("HELD with a bad chance", x.forecast(0), NONE);
            StagedRollout risky = fleet(4);
            startPlan(risky, true, 7);
            startPlan(risky, true, 0);
            due("behind another risk", risky.forecast(1), 9);
            risky.pass(1);
            risky.hold(0);
            due("behind a HELD one", risky.forecast(1), NONE);
            StagedRollout frozen = running(2, 0, 0);
            frozen.freeze(0, 167);
            due("once a week", frozen.forecast(0), 167 + 168 + 2);
            frozen.freeze(167, 168);
            due("never", frozen.forecast(0), NONE);
        });
    }

    private static void logOfEvents() {
        test("with the time before the hour passed, or the time of the call", () -> {
            StagedRollout x = running(4, 0, 0);
            x.pass(1);
            x.hold(0);
            x.pass(4);
            x.resume(0);
            x.pass(2);
            x.turnBack(0);
            x.pass(2);
            int[][] want = {{0, 1, 0}, {1, 6, NONE}, {5, 7, NONE}, {5, 1, 1}, {6, 2, NONE}, {7, 3, NONE}, {7, 4, 1},
                {8, 4, 0}, {8, 5, NONE}};
            due("entries()", x.entries(), want.length);
            for (int i = 0; i < want.length; i++) {
                entryIs(x, i, want[i][0], 0, want[i][1], want[i][2]);
            }
        });
        test("3 for its stage (NONE for events of a change as a whole)", () -> {
            StagedRollout x = running(8, 0, 0, 0, 0, 0, 0);
            x.pass(7);
            for (int stage = 0; stage < 6; stage++) {
                due("a stage BEGINS", x.entry(stage, 3), stage);
            }
            due("DONE", x.entry(6, 3), NONE);
            x.turnBack(0);
            x.pass(6);
            due("becomes TURNING", x.entry(7, 3), NONE);
            for (int stage = 5; stage >= 0; stage--) {
                due("a stage is turned BACK", x.entry(13 - stage, 3), stage);
            }
            due("TURNED", x.entry(14, 3), NONE);
            due("HELD", logged(1).entry(0, 3), NONE);
            due("resumed", logged(2).entry(1, 3), NONE);
        });
    }

    private static void logOfTwenty() {
        test("It has the latest 20 entries.", () -> {
            for (int got : new int[] {0, 1, 19, 20, 21, 22, 39, 40, 41, 65}) {
                StagedRollout x = logged(got);
                int has = Math.min(got, 20);
                due("entries() of " + got, x.entries(), has);
                for (int i = 0; i < has; i++) {
                    int number = got - has + i;
                    entryIs(x, i, number / 2, 0, 6 + number % 2, NONE);
                }
                due("the entry after the newest one", x.entry(has, 0), BAD_INDEX);
            }
        });
        test("the number of an entry, counted from 0 from the oldest one that is there", () -> {
            StagedRollout x = logged(25);
            due("the oldest one", x.entry(0, 0), 2);
            due("the newest one", x.entry(19, 0), 12);
            dueForAll("entry(_, 0)", entry -> x.entry(entry, 0), BAD_INDEX, -1, 20, 24, LEAST, MOST);
            due("an empty log", logged(0).entry(0, 0), BAD_INDEX);
            due("the second of one", logged(1).entry(1, 0), BAD_INDEX);
            dueForAll("entry(0, _)", what -> x.entry(0, what), BAD_VALUE, -1, 4, 5, LEAST, MOST);
        });
        test("Returns the number of entries of the log.", () -> {
            StagedRollout x = running(4, 0);
            due("entries()", x.entries(), 0);
            for (int i = 1; i <= 24; i++) {
                due("hold() or resume()", i % 2 == 1 ? x.hold(0) : x.resume(0), 0);
                due("entries()", x.entries(), Math.min(i, 20));
            }
        });
    }

    private static void counts() {
        test("`event`: 1 to 7", () -> {
            StagedRollout x = logged(9);
            due("count(1, -1)", x.count(1, -1), 0);
            due("count(7, -1)", x.count(7, -1), 4);
            dueForAll("count(_, -1)", event -> x.count(event, -1), BAD_VALUE, 0, 8, -1, LEAST, MOST);
        });
        test("`change`: a change, or -1 for all changes", () -> {
            StagedRollout x = fleet(4);
            due("no changes", x.count(1, -1), 0);
            due("no such change", x.count(1, 0), BAD_INDEX);
            for (int i = 0; i < 3; i++) {
                startPlan(x, false, 0, 0);
            }
            x.pass(3);
            x.turnBack(2);
            due("count(1, -1)", x.count(1, -1), 6);
            due("count(1, 0)", x.count(1, 0), 2);
            due("count(2, 2)", x.count(2, 2), 1);
            due("count(3, 1)", x.count(3, 1), 0);
            due("count(3, 2)", x.count(3, 2), 1);
            dueForAll("count(1, _)", change -> x.count(1, change), BAD_INDEX, -2, 3, 5, LEAST, MOST);
        });
        test("Returns the number of entries of this event in the log", () -> {
            StagedRollout x = running(4, 0);
            x.pass(1);
            due("count(1, 0)", x.count(1, 0), 1);
            for (int i = 0; i < 9; i++) {
                x.hold(0);
                x.resume(0);
            }
            due("with 19 entries", x.count(1, 0), 1);
            x.hold(0);
            due("with 20 entries", x.count(1, 0), 1);
            x.resume(0);
            due("it is lost now", x.count(1, 0), 0);
            due("HELD", x.count(6, 0), 10);
            due("resumed", x.count(7, -1), 10);
            x.resume(0);
            due("a refused call is no event", x.count(7, -1), 10);
        });
        test("a stage BEGINS (1), a change is DONE (2), a change becomes TURNING (3), a stage is turned BACK (4), a change is TURNED (5), HELD (6) or resumed (7).", () -> {
            StagedRollout x = running(4, 0, 0);
            x.pass(1);
            x.hold(0);
            x.resume(0);
            x.pass(2);
            x.turnBack(0);
            x.pass(2);
            int[] want = {2, 1, 1, 2, 1, 1, 1};
            for (int event = 1; event <= 7; event++) {
                due("count(" + event + ", 0)", x.count(event, 0), want[event - 1]);
            }
        });
    }
}
