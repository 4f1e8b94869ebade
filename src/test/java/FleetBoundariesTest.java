/** The boundary sentences on the fleet, the frozen hours and the plans: promises 1 to 10 and 26. */
public final class FleetBoundariesTest extends Boundaries {
    public static void main(String[] args) {
        newObjects();
        fleets();
        limits();
        frozenHours();
        changesMade();
        stagesAdded();
        orders();
        end("fleet boundaries");
    }

    private static void newObjects() {
        test("Creates a simulator with four cells", () -> {
            due("has(3)", new StagedRollout().has(3), 0);
            due("has(4)", new StagedRollout().has(4), BAD_INDEX);
            due("begin(2)", new StagedRollout().begin(2), 4);
        });
        test("without changes and frozen hours", () -> {
            StagedRollout x = new StagedRollout();
            due("changes()", x.changes(), 0);
            due("change(0, 0)", x.change(0, 0), BAD_INDEX);
            due("addChange(true)", x.addChange(true), 0);
            for (int hour = 0; hour < 168; hour++) {
                due("isFrozen(" + hour + ")", x.isFrozen(hour), 0);
            }
            due("thaw()", x.thaw(), 0);
        });
        test("at the time 0", () -> due("time()", new StagedRollout().time(), 0));
        test("with the limit 50", () -> due("setLimit(51)", new StagedRollout().setLimit(51), 50));
        test("an empty log", () -> {
            StagedRollout x = new StagedRollout();
            due("entries()", x.entries(), 0);
            due("entry(0, 0)", x.entry(0, 0), BAD_INDEX);
            for (int event = 1; event <= 7; event++) {
                due("count(" + event + ", -1)", x.count(event, -1), 0);
            }
        });
        test("an empty text", () -> {
            due("clearText()", new StagedRollout().clearText(), 0);
            due("faultPosition()", new StagedRollout().faultPosition(), NONE);
            due("append(48)", new StagedRollout().append(48), 1);
        });
        test("empty slots", () -> {
            due("restore(0)", new StagedRollout().restore(0), NOT_POSSIBLE);
            due("restore(1)", new StagedRollout().restore(1), NOT_POSSIBLE);
        });
        test("An object is used for at most 512 calls after it has been made", () -> {
            StagedRollout x = new StagedRollout();
            for (int i = 0; i < 511; i++) {
                x.pass(100);
            }
            due("time(), the 512th call", x.time(), 51100);
            StagedRollout full = running(4, 0);
            for (int i = 4; i < 510; i += 2) {
                full.hold(0);
                full.resume(0);
            }
            due("count(7, 0), the 511th call", full.count(7, 0), 10);
            due("entry(19, 2), the 512th call", full.entry(19, 2), 7);
        });
    }

    private static void fleets() {
        test("The fleet has 1 to 8 cells, numbered from 0, at first 4.", () -> {
            for (int cells = 1; cells <= 8; cells++) {
                StagedRollout x = new StagedRollout();
                due("begin(" + cells + ")", x.begin(cells), 4);
                due("the first cell", x.has(0), 0);
                due("the last cell", x.has(cells - 1), 0);
                due("the cell after it", x.has(cells), BAD_INDEX);
                due("the cell -1", x.has(-1), BAD_INDEX);
                due("report() of the last cell", x.report(cells - 1, 0, 0), 0);
                due("report() of the cell after it", x.report(cells, 0, 0), BAD_INDEX);
            }
        });
        test("`cells`: 1 to 8", () ->
            dueForAll("begin()", c -> fleet(3).begin(c), BAD_VALUE, 0, 9, -1, 10, 256, LEAST, MOST));
        test("Returns the previous number of cells; BAD_VALUE.", () -> {
            StagedRollout x = new StagedRollout();
            int[] sizes = {8, 8, 1, 1, 5};
            int previous = 4;
            for (int cells : sizes) {
                due("begin(" + cells + ")", x.begin(cells), previous);
                due("begin(0)", x.begin(0), BAD_VALUE);
                previous = cells;
            }
        });
        test("there are no changes and no frozen hours, the time is 0, and the log is empty.", () -> {
            StagedRollout x = logged(24);
            x.freeze(0, 168);
            x.freeze(0, 168);
            for (int i = 0; i < 4; i++) {
                x.addChange(true);
            }
            due("all was full", x.addChange(true) + x.freeze(0, 1) - x.entries(), 2 * FULL - 20);
            x.begin(4);
            due("time()", x.time(), 0);
            due("entries()", x.entries(), 0);
            due("entry(0, 0)", x.entry(0, 0), BAD_INDEX);
            due("count(6, -1)", x.count(6, -1), 0);
            due("isFrozen(0)", x.isFrozen(0), 0);
            due("isFrozen(167)", x.isFrozen(167), 0);
            due("changes()", x.changes(), 0);
            due("change(0, 0)", x.change(0, 0), BAD_INDEX);
            for (int i = 1; i <= 3; i++) {
                due("freeze(5, 6)", x.freeze(5, 6), i);
            }
            for (int i = 0; i < 5; i++) {
                due("addChange(false)", x.addChange(false), i);
            }
        });
        test("Makes a change that is PLANNED, without stages.", () -> {
            StagedRollout x = inState(RUNNING);
            x.report(0, 3, 1);
            x.report(1, 1, 3);
            due("denominator before", x.chance(0, true), 70);
            x.addChange(true);
            x.putAfter(1, 0);
            x.begin(4);
            for (int i = 0; i < 2; i++) {
                x.addChange(false);
                for (int what = 0; what < 7; what++) {
                    due("change(" + i + ", " + what + ")", x.change(i, what), what == 4 ? NOT_UNDER_WAY : 0);
                }
                due("treated and control", treated(x, i) + control(x, i), 0);
                due("numerator", x.chance(i, false), 1);
                due("denominator", x.chance(i, true), 1);
                due("stage(" + i + ", 0, 0)", x.stage(i, 0, 0), BAD_INDEX);
            }
            due("has(0)", x.has(0), 0);
        });
        test("The limit, the text and the slots stay.", () -> {
            StagedRollout x = inState(DONE);
            x.setLimit(1000);
            write(x, "0:1/2;");
            x.save(1);
            x.begin(4);
            due("clearText()", x.clearText(), 6);
            due("setLimit(1)", x.setLimit(1), 1000);
            due("restore(0)", x.restore(0), NOT_POSSIBLE);
            due("restore(1)", x.restore(1), 3);
        });
    }

    private static void limits() {
        test("`thousandths`: the new limit, 0 to 1000", () -> {
            StagedRollout x = new StagedRollout();
            due("setLimit(0)", x.setLimit(0), 50);
            due("setLimit(1000)", x.setLimit(1000), 0);
            dueForAll("setLimit()", x::setLimit, BAD_VALUE, -1, 1001, -1000, LEAST, MOST);
            due("setLimit(999)", x.setLimit(999), 1000);
            due("setLimit(1)", x.setLimit(1), 999);
        });
    }

    private static void frozenHours() {
        test("FULL if there are three.", () -> {
            StagedRollout x = new StagedRollout();
            for (int i = 1; i <= 3; i++) {
                due("freeze(0, 168)", x.freeze(0, 168), i);
            }
            due("freeze(0, 168)", x.freeze(0, 168), FULL);
            x.thaw();
            due("freeze(0, 168) after thaw()", x.freeze(0, 168), 1);
        });
        test("At most three spans of hours of the week are frozen.", () -> {
            StagedRollout x = new StagedRollout();
            for (int i = 1; i <= 3; i++) {
                due("freeze()", x.freeze(10 * i, 10 * i + 1), i);
            }
            due("a fourth", x.freeze(40, 41), FULL);
            due("a fourth, of hours that are frozen", x.freeze(10, 11), FULL);
            due("isFrozen(40)", x.isFrozen(40), 0);
            due("isFrozen(30)", x.isFrozen(30), 1);
        });
        test("`from`: 0 to 167", () -> {
            due("freeze(0, 168)", new StagedRollout().freeze(0, 168), 1);
            due("freeze(167, 168)", new StagedRollout().freeze(167, 168), 1);
            dueForAll("freeze(_, 168)", from -> new StagedRollout().freeze(from, 168), BAD_VALUE, -1, 168, LEAST, MOST);
            due("freeze(168, 169)", new StagedRollout().freeze(168, 169), BAD_VALUE);
            due("freeze(-1, 0)", new StagedRollout().freeze(-1, 0), BAD_VALUE);
        });
        test("`to`: the first hour after them, from + 1 to 168", () -> {
            due("freeze(0, 1)", new StagedRollout().freeze(0, 1), 1);
            due("freeze(100, 101)", new StagedRollout().freeze(100, 101), 1);
            dueForAll("freeze(100, _)", to -> new StagedRollout().freeze(100, to), BAD_VALUE, 100, 99, 0, -1, 169, LEAST, MOST);
            due("freeze(167, 169)", new StagedRollout().freeze(167, 169), BAD_VALUE);
            due("freeze(MOST, LEAST)", new StagedRollout().freeze(MOST, LEAST), BAD_VALUE);
            StagedRollout x = new StagedRollout();
            x.freeze(100, 102);
            int[] want = {0, 1, 1, 0};
            for (int i = 0; i < 4; i++) {
                due("isFrozen(" + (99 + i) + ")", x.isFrozen(99 + i), want[i]);
            }
        });
        test("Freezes hours of the week, besides those that are frozen already", () -> {
            StagedRollout x = new StagedRollout();
            x.freeze(0, 1);
            x.freeze(167, 168);
            x.freeze(83, 85);
            int[] hours = {0, 1, 82, 83, 84, 85, 166, 167};
            int[] want = {1, 0, 0, 1, 1, 0, 0, 1};
            for (int i = 0; i < hours.length; i++) {
                due("isFrozen(" + hours[i] + ")", x.isFrozen(hours[i]), want[i]);
            }
        });
        test("this is one more span, also if some of them were frozen.", () -> {
            int[][] others = {{10, 20}, {12, 15}, {5, 11}, {19, 30}, {20, 25}, {9, 10}};
            for (int[] other : others) {
                StagedRollout x = new StagedRollout();
                x.freeze(10, 20);
                due("freeze(" + other[0] + ", " + other[1] + ")", x.freeze(other[0], other[1]), 2);
                due("isFrozen(10)", x.isFrozen(10), 1);
                due("isFrozen(19)", x.isFrozen(19), 1);
                due("thaw()", x.thaw(), 2);
            }
        });
        test("No hours are frozen any more.", () -> {
            StagedRollout x = new StagedRollout();
            x.freeze(0, 168);
            x.freeze(0, 1);
            x.freeze(167, 168);
            x.thaw();
            due("isFrozen(0)", x.isFrozen(0), 0);
            due("isFrozen(84)", x.isFrozen(84), 0);
            due("isFrozen(167)", x.isFrozen(167), 0);
            due("freeze(3, 4), with room again", x.freeze(3, 4), 1);
            due("isFrozen(0)", x.isFrozen(0), 0);
        });
        test("Returns the number of frozen spans that there were.", () -> {
            for (int spans = 0; spans <= 4; spans++) {
                StagedRollout x = new StagedRollout();
                for (int i = 0; i < spans; i++) {
                    x.freeze(7, 8);
                }
                due("thaw() of " + spans, x.thaw(), Math.min(spans, 3));
                due("thaw() again", x.thaw(), 0);
            }
        });
        test("`hour`: an hour of the week, 0 to 167", () -> {
            StagedRollout x = new StagedRollout();
            x.freeze(0, 168);
            dueForAll("isFrozen()", x::isFrozen, 1, 0, 1, 166, 167);
            dueForAll("isFrozen()", x::isFrozen, BAD_VALUE, -1, 168, 169, LEAST, MOST);
        });
    }

    private static void changesMade() {
        test("FULL if there are 5 changes.", () -> {
            StagedRollout x = new StagedRollout();
            for (int i = 0; i < 5; i++) {
                due("addChange(true)", x.addChange(true), i);
            }
            due("addChange(true)", x.addChange(true), FULL);
            due("addChange(false)", x.addChange(false), FULL);
            x.begin(4);
            due("addChange(false) after begin()", x.addChange(false), 0);
        });
        test("Returns its number; FULL if there are 5 changes.", () -> {
            for (int state = DONE; state <= TURNED; state += TURNED - DONE) {
                StagedRollout x = inState(state);
                due("one that is over keeps its number", x.addChange(false), 1);
                x.addChange(false);
                x.addChange(false);
                x.addChange(false);
                due("and its place", x.addChange(false), FULL);
            }
        });
        test("There are at most 5 changes, numbered from 0 in the order in which they are made.", () -> {
            StagedRollout x = new StagedRollout();
            for (int i = 0; i < 5; i++) {
                due("the next number", x.change(i, 0), BAD_INDEX);
                due("addChange()", x.addChange(i == 3), i);
                due("change(" + i + ", 6)", x.change(i, 6), i == 3 ? 1 : 0);
            }
            due("a sixth", x.addChange(true), FULL);
            due("another sixth", x.addChange(false), FULL);
            due("change(5, 0)", x.change(5, 0), BAD_INDEX);
        });
        test("Returns the number of changes.", () -> {
            StagedRollout x = new StagedRollout();
            for (int i = 0; i <= 7; i++) {
                due("changes()", x.changes(), Math.min(i, 5));
                x.addChange(false);
            }
        });
        test("A change is risky or not, and has a plan of 0 to 6 stages, numbered from 0.", () -> {
            StagedRollout x = fleet(8);
            x.addChange(true);
            for (int i = 0; i < 6; i++) {
                due("the next stage", x.stage(0, i, 0), BAD_INDEX);
                due("the number of stages", x.change(0, 1), i);
                due("addStage()", x.addStage(0, 1 << i, i, 6 - i), i + 1);
                due("its cells", x.stage(0, i, 0), 1 << i);
                due("its wait", x.stage(0, i, 1), i);
                due("its samples", x.stage(0, i, 2), 6 - i);
            }
            due("a seventh", x.addStage(0, 64, 0, 0), FULL);
            due("the number of stages", x.change(0, 1), 6);
            due("stage(0, 6, 0)", x.stage(0, 6, 0), BAD_INDEX);
        });
    }

    private static int addTo(int fleetCells, int cells, int wait, int samples) {
        StagedRollout x = fleet(fleetCells);
        x.addChange(false);
        return x.addStage(0, cells, wait, samples);
    }

    private static void stagesAdded() {
        test("`cells`: a set of cells, 1 to 2 to the power of the number of cells, minus 1", () -> {
            for (int size = 1; size <= 8; size++) {
                due("the least set of " + size, addTo(size, 1, 0, 0), 1);
                due("the largest set of " + size, addTo(size, (1 << size) - 1, 0, 0), 1);
                due("a set too large for " + size, addTo(size, 1 << size, 0, 0), BAD_VALUE);
                due("the empty set", addTo(size, 0, 0, 0), BAD_VALUE);
            }
            dueForAll("cells", cells -> addTo(8, cells, 0, 0), BAD_VALUE, -1, 257, 511, LEAST, LEAST + 1, MOST);
        });
        test("`wait`: 0 to 48", () -> {
            dueForAll("wait", wait -> addTo(4, 1, wait, 0), 1, 0, 1, 47, 48);
            dueForAll("wait", wait -> addTo(4, 1, wait, 0), BAD_VALUE, -1, 49, LEAST, MOST);
        });
        test("`samples`: 0 to 25", () -> {
            dueForAll("samples", samples -> addTo(4, 1, 0, samples), 1, 0, 1, 24, 25);
            dueForAll("samples", samples -> addTo(4, 1, 0, samples), BAD_VALUE, -1, 26, LEAST, MOST);
        });
        test("which is not empty and has no cell of another stage of the same change", () -> {
            StagedRollout x = fleet(8);
            x.addChange(false);
            x.addChange(false);
            x.addStage(0, 0b00010001, 0, 0);
            x.addStage(0, 0b10000010, 0, 0);
            int[] taken = {1, 16, 2, 128, 0b11111111, 0b01000001, 0b11000000};
            for (int cells : taken) {
                due("addStage(0, " + cells + ", 0, 0)", x.addStage(0, cells, 0, 0), NOT_POSSIBLE);
            }
            due("the empty set", x.addStage(0, 0, 0, 0), BAD_VALUE);
            due("a cell of another change's stage", x.addStage(1, 255, 0, 0), 1);
            due("the cells that are left", x.addStage(0, 0b01101100, 0, 0), 3);
            due("no cell is left", x.addStage(0, 4, 0, 0), NOT_POSSIBLE);
        });
        test("NOT_POSSIBLE if the change is not PLANNED, or an earlier stage has one of the cells", () -> {
            for (int state = RUNNING; state <= TURNED; state++) {
                due("addStage() in the state " + state, inState(state).addStage(0, 4, 0, 0), NOT_POSSIBLE);
            }
            due("addStage() when PLANNED", inState(PLANNED).addStage(0, 4, 0, 0), 3);
        });
        test("FULL if it has 6 stages.", () -> {
            StagedRollout x = fleet(8);
            plan(x, false, 0, 0, 0, 0, 0, 0);
            due("a seventh", x.addStage(0, 192, 0, 0), FULL);
            due("a seventh with a cell of the sixth", x.addStage(0, 32, 0, 0), NOT_POSSIBLE);
            due("a stage of another change", x.addChange(false) + x.addStage(1, 192, 0, 0), 2);
        });
        test("`stage`: a stage of its plan", () -> {
            StagedRollout x = fleet(4);
            plan(x, false, 1, 2);
            x.addChange(false);
            due("the first one", x.stage(0, 0, 1), 1);
            due("the last one", x.stage(0, 1, 1), 2);
            dueForAll("stage(0, _, 1)", stage -> x.stage(0, stage, 1), BAD_INDEX, -1, 2, 5, 6, LEAST, MOST);
            due("a stage of an empty plan", x.stage(1, 0, 1), BAD_INDEX);
            dueForAll("stage(_, 0, 1)", change -> x.stage(change, 0, 1), BAD_INDEX, -1, 2, 5, LEAST, MOST);
        });
        test("`what`: 0 for its cells, 1 for its wait, 2 for its samples", () -> {
            StagedRollout x = fleet(8);
            x.addChange(false);
            x.addStage(0, 255, 48, 25);
            int[] want = {255, 48, 25};
            for (int what = 0; what < 3; what++) {
                due("stage(0, 0, " + what + ")", x.stage(0, 0, what), want[what]);
            }
            dueForAll("stage(0, 0, _)", what -> x.stage(0, 0, what), BAD_VALUE, -1, 3, 4, LEAST, MOST);
        });
    }

    private static void orders() {
        test("(It may be so already.)", () -> {
            StagedRollout x = fleet(4);
            x.addChange(false);
            x.addChange(false);
            due("putAfter(1, 0)", x.putAfter(1, 0), 1);
            due("putAfter(1, 0) again", x.putAfter(1, 0), 1);
            due("change(1, 5)", x.change(1, 5), 1);
        });
        test("`first`: another change, with a lower number", () -> {
            StagedRollout x = fleet(4);
            for (int i = 0; i < 5; i++) {
                x.addChange(false);
            }
            due("the lowest one", x.putAfter(4, 0), 1);
            due("the next lower one", x.putAfter(4, 3), 2);
            due("putAfter(1, 0)", x.putAfter(1, 0), 1);
        });
        test("BAD_INDEX, also if the second number is not lower", () -> {
            StagedRollout x = fleet(4);
            for (int i = 0; i < 3; i++) {
                x.addChange(false);
            }
            dueForAll("putAfter(1, _)", first -> x.putAfter(1, first), BAD_INDEX, -1, 1, 2, 3, 5, LEAST, MOST);
            dueForAll("putAfter(_, 0)", change -> x.putAfter(change, 0), BAD_INDEX, -1, 0, 3, 5, LEAST, MOST);
            dueForAll("putAfter(_, -1)", change -> x.putAfter(change, -1), BAD_INDEX, -1, 0, 1, 3, LEAST, MOST);
            due("the set stays empty", x.change(1, 5) + x.change(2, 5), 0);
        });
        test("Returns the number of changes that have to be DONE before the change (the first argument) then", () -> {
            StagedRollout x = fleet(4);
            for (int i = 0; i < 5; i++) {
                x.addChange(false);
            }
            due("the set of the last one", x.change(4, 5), 0);
            for (int first = 3; first >= 0; first--) {
                due("putAfter(4, " + first + ")", x.putAfter(4, first), 4 - first);
            }
            due("all of them", x.change(4, 5), 15);
            due("those of another one are its own", x.putAfter(3, 2), 1);
            due("change(3, 5)", x.change(3, 5), 4);
        });
        test("NOT_POSSIBLE if the change is not PLANNED.", () -> {
            for (int state = PLANNED; state <= TURNED; state++) {
                StagedRollout x = fleet(4);
                x.addChange(false);
                plan(x, false, 0, 0);
                bring(x, 1, state);
                due("putAfter() in the state " + state, x.putAfter(1, 0), state == PLANNED ? 1 : NOT_POSSIBLE);
            }
            for (int state = PLANNED; state <= TURNED; state++) {
                StagedRollout x = inState(state);
                x.addChange(false);
                due("putAfter() one in the state " + state, x.putAfter(1, 0), 1);
            }
        });
    }
}
