/** The boundary sentences on slots and the checksum: promises 31 to 33. */
public final class SlotsBoundariesTest extends Boundaries {
    public static void main(String[] args) {
        slots();
        saving();
        restoring();
        checksums();
        end("slots boundaries");
    }

    private static void slots() {
        test("`slot`: 0 or 1", () -> {
            StagedRollout x = new StagedRollout();
            dueForAll("save()", x::save, BAD_INDEX, -1, 2, 3, LEAST, MOST);
            due("restore(0)", x.restore(0), NOT_POSSIBLE);
            due("save(0)", x.save(0), 0);
            due("save(1)", x.save(1), 0);
            dueForAll("restore()", x::restore, BAD_INDEX, -1, 2, 3, LEAST, MOST);
            due("restore(0)", x.restore(0), 0);
            due("restore(1)", x.restore(1), 0);
        });
        test("NOT_POSSIBLE if nothing has been saved in the slot.", () -> {
            for (int slot = 0; slot <= 1; slot++) {
                StagedRollout x = inState(RUNNING);
                due("before", x.restore(slot), NOT_POSSIBLE);
                x.save(slot);
                due("the other slot", x.restore(1 - slot), NOT_POSSIBLE);
                due("this slot", x.restore(slot), 1);
                x.begin(2);
                due("the other slot after begin()", x.restore(1 - slot), NOT_POSSIBLE);
                due("this slot after begin()", x.restore(slot), 1);
            }
        });
        test("Returns the time; BAD_INDEX.", () -> {
            StagedRollout x = new StagedRollout();
            x.pass(100);
            x.pass(77);
            due("save(0)", x.save(0), 177);
            x.pass(1);
            due("save(1)", x.save(1), 178);
            due("time()", x.time(), 178);
        });
    }

    private static void saving() {
        test("in place of what the slot keeps.", () -> {
            StagedRollout x = inState(DONE);
            x.save(0);
            x.begin(2);
            x.pass(50);
            due("save(0) again", x.save(0), 50);
            x.pass(1);
            due("restore(0)", x.restore(0), 50);
            due("changes()", x.changes(), 0);
            due("has(2)", x.has(2), BAD_INDEX);
            due("entries()", x.entries(), 0);
        });
        test("Saves everything except the text and the slots (so the limit and the log, too)", () -> {
            StagedRollout x = logged(23);
            long before = x.checksum();
            x.setLimit(1000);
            x.freeze(3, 4);
            x.save(1);
            x.begin(8);
            x.setLimit(0);
            x.restore(1);
            due("the checksum", x.checksum(), before);
            due("the limit", x.setLimit(1), 1000);
            due("the spans", x.thaw(), 2);
            due("the log's oldest entry", x.entry(0, 0), 1);
            due("the log's newest entry", x.entry(19, 0), 11);
            due("its next entry", x.resume(0), 0);
            due("the log's oldest entry then", x.entry(0, 0), 2);
            due("the cells", x.begin(1), 4);
        });
        test("Saves everything except the text and the slots (so the limit and the log, too)", () -> {
            StagedRollout x = fleet(5);
            x.addChange(true);
            x.addStage(0, 0b00011, 1, 0);
            x.addStage(0, 0b10100, 48, 25);
            x.addChange(false);
            x.addChange(true);
            x.putAfter(2, 0);
            x.putAfter(2, 1);
            x.start(0);
            x.pass(2);
            x.report(0, 1, 2);
            x.report(3, 3, 4);
            long before = x.checksum();
            x.save(0);
            x.begin(8);
            for (int i = 0; i < 5; i++) {
                startPlan(x, i > 2, 7, 7);
            }
            x.pass(60);
            x.restore(0);
            due("the checksum", x.checksum(), before);
            int[] want = {3, 1, 0, 20, 48, 25};
            for (int i = 0; i < 6; i++) {
                due("the stage number " + i, x.stage(0, i / 3, i % 3), want[i]);
            }
            due("the changes that have to be DONE first", x.change(2, 5), 3);
            due("risky", x.change(2, 6), 1);
            x.turnBack(0);
            x.pass(1);
            due("the first stage's own time", x.change(0, 3), 3);
        });
    }

    private static void restoring() {
        test("Makes everything except the text and the slots as it was saved.", () -> {
            StagedRollout x = fleet(4);
            x.freeze(0, 1);
            x.freeze(50, 60);
            x.freeze(167, 168);
            x.save(0);
            x.thaw();
            for (int i = 0; i < 3; i++) {
                x.freeze(30, 130);
            }
            x.restore(0);
            int[] hours = {0, 1, 30, 49, 50, 59, 60, 129, 166, 167};
            int[] want = {1, 0, 0, 0, 1, 1, 0, 0, 0, 1};
            for (int i = 0; i < hours.length; i++) {
                due("isFrozen(" + hours[i] + ")", x.isFrozen(hours[i]), want[i]);
            }
            due("thaw()", x.thaw(), 3);
        });
        test("Makes everything except the text and the slots as it was saved.", () -> {
            for (int got : new int[] {1, 19, 20, 27}) {
                StagedRollout x = logged(got);
                x.save(0);
                x.begin(4);
                x.pass(70);
                for (int i = 0; i < 5; i++) {
                    startPlan(x, false, 0, 0, 0, 0);
                }
                due("other entries", x.pass(9), 25);
                x.restore(0);
                int has = Math.min(got, 20);
                due("entries()", x.entries(), has);
                for (int i = 0; i < has; i++) {
                    int number = got - has + i;
                    entryIs(x, i, number / 2, 0, 6 + number % 2, NONE);
                }
            }
        });
        test("Makes everything except the text and the slots as it was saved.", () -> {
            StagedRollout x = inState(RUNNING);
            write(x, "0:1/2;");
            x.save(0);
            x.pass(1);
            x.save(1);
            write(x, "1:2");
            due("restore(0)", x.restore(0), 1);
            due("the text is the later one", x.faultPosition(), 3);
            due("its length", x.clearText(), 3);
            due("the other slot stays", x.restore(1), 2);
            due("an empty text stays empty", x.clearText(), 0);
        });
        test("The slot keeps it.", () -> {
            StagedRollout x = inState(RUNNING);
            x.save(1);
            long before = x.checksum();
            for (int i = 0; i < 3; i++) {
                due("restore(1)", x.restore(1), 1);
                due("checksum()", x.checksum(), before);
                x.report(0, 1, 1);
                x.freeze(i, i + 1);
                x.setLimit(1000);
                x.pass(5);
                due("it is TURNED", x.change(0, 0), TURNED);
                x.setLimit(50);
                if (i == 1) {
                    x.begin(1);
                }
            }
            due("restore(1)", x.restore(1), 1);
            due("thaw()", x.thaw(), 0);
            due("setLimit(3)", x.setLimit(3), 50);
        });
        test("Returns the time then; BAD_INDEX; NOT_POSSIBLE if nothing has been saved in the slot.", () -> {
            StagedRollout x = new StagedRollout();
            x.save(0);
            x.pass(9);
            x.save(1);
            x.pass(9);
            due("restore(0)", x.restore(0), 0);
            due("time()", x.time(), 0);
            due("restore(1)", x.restore(1), 9);
            due("time()", x.time(), 9);
            due("restore(2)", x.restore(2), BAD_INDEX);
            due("time()", x.time(), 9);
        });
    }

    /** The document's sum, of what the other calls answer; with five changes and a full log 180 calls. */
    private static long sum(StagedRollout x, int cells) {
        long h = 79;
        h = 31 * h + x.time();
        h = 31 * h + x.changes();
        for (int i = 0; i < x.changes(); i++) {
            for (int what = 0; what <= 6; what++) {
                h = 31 * h + x.change(i, what);
            }
            for (int what = 0; what <= 3; what++) {
                h = 31 * h + x.probes(i, what);
            }
            h = 31 * h + x.chance(i, false);
            h = 31 * h + x.chance(i, true);
        }
        for (int cell = 0; cell < cells; cell++) {
            h = 31 * h + x.has(cell);
        }
        int entries = x.entries();
        h = 31 * h + entries;
        for (int i = 0; i < entries; i++) {
            for (int what = 0; what <= 3; what++) {
                h = 31 * h + x.entry(i, what);
            }
        }
        return h;
    }

    private static void checksums() {
        test("It starts with h = 79", () -> {
            due("a new object", new StagedRollout().checksum(), 79L * 31 * 31 * 31 * 31 * 31 * 31 * 31);
            due("one cell", fleet(1).checksum(), 79L * 31 * 31 * 31 * 31);
        });
        test("h becomes 31 * h + value (as longs, with overflow)", () -> {
            for (int cells = 1; cells <= 8; cells++) {
                StagedRollout x = fleet(cells);
                x.setLimit(0);
                for (int i = 0; i < 5; i++) {
                    startPlan(x, i % 2 == 0, 0, 0);
                    x.report(0, i, 3);
                    x.report(cells - 1, 5, i);
                    x.pass(2);
                    due("checksum() of " + cells + " cells, " + i, x.checksum(), sum(x, cells));
                }
            }
            StagedRollout full = logged(33);
            due("a full log", full.checksum(), sum(full, 4));
        });
        test("both numbers of its chance, the numerator first", () -> {
            StagedRollout x = fleet(2);
            x.setLimit(0);
            startPlan(x, false, 48);
            x.pass(1);
            report(x, 0, 25, 0);
            report(x, 1, 0, 25);
            due("checksum()", x.checksum(), sum(x, 2));
            due("denominator", x.chance(0, true), 126410606437752L);
        });
        test("has() of all cells", () -> {
            StagedRollout x = fleet(8);
            x.addChange(false);
            x.addStage(0, 128, 48, 0);
            x.start(0);
            x.pass(1);
            due("the last cell alone", x.checksum(), sum(x, 8));
        });
        test("Returns the checksum.", () -> {
            StagedRollout x = inState(TURNING);
            due("asked twice", x.checksum() - x.checksum(), 0);
            StagedRollout twin = inState(TURNING);
            twin.freeze(100, 101);
            twin.setLimit(51);
            twin.append(48);
            twin.save(0);
            due("spans, limit, text and slots are not in it", twin.checksum(), x.checksum());
        });
    }
}
