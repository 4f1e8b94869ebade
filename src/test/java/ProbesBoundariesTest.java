import java.math.BigInteger;

/** The boundary sentences on probes, chances and the limit: promises 3, 19, 23 and 24. */
public final class ProbesBoundariesTest extends Boundaries {
    public static void main(String[] args) {
        whoCounts();
        room();
        reports();
        howLong();
        chances();
        badChances();
        end("probes boundaries");
    }

    /** A change of two cells of three, whose first stage has begun and waits. */
    private static StagedRollout begun() {
        StagedRollout x = fleet(3);
        x.setLimit(0);
        startPlan(x, false, 48, 0);
        x.pass(1);
        return x;
    }

    private static void whoCounts() {
        test("For each change that is RUNNING or HELD and has a begun stage", () -> {
            int[] want = {0, 1, 1, 0, 0, 0};
            for (int state = PLANNED; state <= TURNED; state++) {
                StagedRollout x = inState(state);
                due("report(0, 1, 2) in the state " + state, x.report(0, 1, 2), want[state]);
                due("report(3, 3, 4) in the state " + state, x.report(3, 3, 4), want[state]);
                due("treated", treated(x, 0), 3 * want[state]);
                due("control", control(x, 0), 7 * want[state]);
            }
        });
        test("For each change that is RUNNING or HELD and has a begun stage", () -> {
            StagedRollout x = running(4, 0);
            due("RUNNING without a begun stage", x.report(0, 1, 1), 0);
            x.hold(0);
            due("HELD without a begun stage", x.report(0, 1, 1), 0);
            x.turnBack(0);
            due("TURNING without a begun stage", x.report(0, 1, 1), 0);
            due("treated and control", treated(x, 0) + control(x, 0), 0);
        });
        test("they are added to its treated probes if the cell has the change, and otherwise to its control probes", () -> {
            StagedRollout x = begun();
            x.report(0, 1, 2);
            x.report(1, 3, 4);
            x.report(2, 5, 6);
            due("bad treated", x.probes(0, 0), 1);
            due("good treated", x.probes(0, 1), 2);
            due("bad control, a cell of a stage to come too", x.probes(0, 2), 8);
            due("good control", x.probes(0, 3), 10);
        });
        test("they are added to its treated probes if the cell has the change, and otherwise to its control probes", () -> {
            StagedRollout x = fleet(8);
            x.setLimit(0);
            x.addChange(false);
            x.addStage(0, 0b10000001, 9, 0);
            x.addChange(false);
            x.addStage(1, 0b10000010, 9, 0);
            x.start(0);
            x.start(1);
            x.pass(1);
            due("the last cell, of both", x.report(7, 1, 0), 2);
            due("the first cell, of one", x.report(0, 0, 1), 2);
            due("treated of 0", treated(x, 0), 2);
            due("control of 0", control(x, 0), 0);
            due("treated of 1", treated(x, 1), 1);
            due("control of 1", control(x, 1), 1);
        });
        test("Returns the number of changes for which they were counted; BAD_INDEX; BAD_VALUE.", () -> {
            StagedRollout x = fleet(4);
            due("no changes", x.report(0, 9, 9), 0);
            x.setLimit(0);
            for (int i = 0; i < 5; i++) {
                startPlan(x, false, 48);
            }
            due("no begun stages", x.report(0, 9, 9), 0);
            x.pass(1);
            due("all five", x.report(0, 9, 9), 5);
            for (int i = 0; i < 5; i++) {
                x.turnBack(i);
                due("all but " + (i + 1), x.report(3, 0, 1), 4 - i);
            }
        });
    }

    private static void room() {
        test("if there would not be more than 25 of these, treated or control ones, then", () -> {
            for (int cell = 0; cell <= 1; cell++) {
                StagedRollout x = begun();
                due("18", x.report(cell, 9, 9), 1);
                due("26 would be too many", x.report(cell, 0, 8), 0);
                due("just 25", x.report(cell, 0, 7), 1);
                due("26 would be too many", x.report(cell, 1, 0), 0);
                due("26 would be too many", x.report(cell, 0, 1), 0);
                due("treated and control", 100 * treated(x, 0) + control(x, 0), cell == 0 ? 2500 : 25);
                due("the others have room of their own", x.report(1 - cell, 9, 9), 1);
                due("and up to 25", x.report(1 - cell, 7, 0), 1);
                due("treated and control", 100 * treated(x, 0) + control(x, 0), 2525);
            }
        });
        test("(bad and good ones together)", () -> {
            for (int cell = 0; cell <= 1; cell++) {
                StagedRollout x = begun();
                x.report(cell, 9, 9);
                due("26 together", x.report(cell, 4, 4), 0);
                due("25 together", x.report(cell, 4, 3), 1);
                due("bad ones", x.probes(0, 2 * cell), 13);
                due("good ones", x.probes(0, 2 * cell + 1), 12);
            }
        });
        test("otherwise they are not counted for this change.", () -> {
            StagedRollout x = fleet(2);
            x.setLimit(0);
            startPlan(x, false, 48);
            x.pass(1);
            x.report(0, 9, 9);
            startPlan(x, false, 48);
            x.pass(1);
            due("18 and 9 for the one, 9 for the other", x.report(0, 0, 9), 1);
            due("the one, not even in part", treated(x, 0), 18);
            due("the other", treated(x, 1), 9);
            due("less is counted again", x.report(0, 0, 7), 2);
            due("the one", treated(x, 0), 25);
            due("the other", treated(x, 1), 16);
        });
        test("(A report of 0 and 0 counts likewise.)", () -> {
            StagedRollout x = begun();
            due("without probes", x.report(0, 0, 0), 1);
            report(x, 0, 9, 16);
            report(x, 1, 16, 9);
            due("with 25 treated ones", x.report(0, 0, 0), 1);
            due("with 25 control ones", x.report(1, 0, 0), 1);
            due("one more", x.report(0, 0, 1), 0);
            due("treated and control", 100 * treated(x, 0) + control(x, 0), 2525);
        });
    }

    private static void reports() {
        test("`bad`: 0 to 9", () -> {
            dueForAll("report(0, _, 0)", bad -> begun().report(0, bad, 0), 1, 0, 1, 8, 9);
            dueForAll("report(0, _, 0)", bad -> begun().report(0, bad, 0), BAD_VALUE, -1, 10, -9, LEAST, MOST);
        });
        test("`good`: 0 to 9", () -> {
            dueForAll("report(0, 0, _)", good -> begun().report(0, 0, good), 1, 0, 1, 8, 9);
            dueForAll("report(0, 0, _)", good -> begun().report(0, 0, good), BAD_VALUE, -1, 10, -9, LEAST, MOST);
            due("both too large", begun().report(0, MOST, MOST), BAD_VALUE);
            due("one for the other", begun().report(0, -1, 1), BAD_VALUE);
            due("one for the other", begun().report(0, 1, -1), BAD_VALUE);
        });
        test("`cell`: a cell", () -> {
            dueForAll("report()", cell -> begun().report(cell, 0, 0), 1, 0, 1, 2);
            dueForAll("report()", cell -> begun().report(cell, 0, 0), BAD_INDEX, -1, 3, 7, 8, 32, LEAST, MOST);
            dueForAll("has()", cell -> begun().has(cell), BAD_INDEX, -1, 3, 7, 8, 32, LEAST, MOST);
            due("has(0)", begun().has(0), 1);
            due("has(2)", begun().has(2), 0);
        });
        test("0 for its bad treated probes, 1 for its good treated ones, 2 for its bad control ones, 3 for its good control ones", () -> {
            StagedRollout x = begun();
            x.report(0, 1, 2);
            x.report(2, 3, 4);
            for (int what = 0; what < 4; what++) {
                due("probes(0, " + what + ")", x.probes(0, what), what + 1);
            }
            dueForAll("probes(0, _)", what -> x.probes(0, what), BAD_VALUE, -1, 4, 5, LEAST, MOST);
            dueForAll("probes(_, 0)", change -> x.probes(change, 0), BAD_INDEX, -1, 1, 5, LEAST, MOST);
        });
    }

    private static void howLong() {
        test("The probes of a change are counted from when a stage of it began last", () -> {
            StagedRollout x = fleet(4);
            x.setLimit(0);
            startPlan(x, false, 1, 0);
            x.pass(1);
            report(x, 0, 3, 1);
            report(x, 1, 1, 3);
            due("numerator before", x.chance(0, false), 17);
            x.pass(1);
            due("a second stage has begun", x.change(0, 2), 2);
            for (int what = 0; what < 4; what++) {
                due("probes(0, " + what + ")", x.probes(0, what), 0);
            }
            due("chance(0, false)", x.chance(0, false), 1);
            due("chance(0, true)", x.chance(0, true), 1);
            due("there is room again", x.report(0, 9, 9), 1);
            due("the new stage's cell is treated now", x.report(1, 3, 4), 1);
            due("treated", treated(x, 0), 25);
            due("control", control(x, 0), 0);
            x.pass(1);
            due("it is DONE", x.change(0, 0), DONE);
            due("and they stay", treated(x, 0), 25);
        });
        test("they stay as they are if stages are turned back.", () -> {
            StagedRollout x = fleet(4);
            x.setLimit(0);
            startPlan(x, false, 0, 48);
            x.pass(2);
            report(x, 0, 3, 1);
            report(x, 2, 1, 3);
            x.turnBack(0);
            for (int begun = 2; begun >= 0; begun--) {
                due("begun stages", x.change(0, 2), begun);
                due("treated and control", 100 * treated(x, 0) + control(x, 0), 404);
                due("numerator", x.chance(0, false), 17);
                due("denominator", x.chance(0, true), 70);
                x.pass(1);
            }
            due("it is TURNED", x.change(0, 0), TURNED);
        });
    }

    private static StagedRollout withProbes(int a, int b, int c, int d) {
        StagedRollout x = begun();
        report(x, 0, a, b);
        report(x, 2, c, d);
        return x;
    }

    private static void chanceOf(int a, int b, int c, int d, long numerator, long denominator) {
        StagedRollout x = withProbes(a, b, c, d);
        String of = " of " + a + ", " + b + ", " + c + ", " + d;
        due("numerator" + of, x.chance(0, false), numerator);
        due("denominator" + of, x.chance(0, true), denominator);
    }

    private static void chances() {
        test("for k from a to the smaller one of a + b and a + c", () -> {
            chanceOf(1, 0, 2, 1, 3, 4);
            chanceOf(1, 2, 0, 1, 3, 4);
            chanceOf(1, 1, 1, 1, 5, 6);
            chanceOf(2, 1, 1, 2, 1, 2);
            chanceOf(3, 1, 1, 3, 17, 70);
            chanceOf(2, 0, 0, 2, 1, 6);
            chanceOf(0, 3, 3, 0, 1, 1);
        });
        test("With a bad and b good treated probes, and c bad and d good control probes, the chance is the sum", () -> {
            StagedRollout x = begun();
            int[][] steps = {{2, 1, 2, 1, 1}, {0, 2, 0, 3, 10}, {2, 0, 1, 1, 5}, {0, 1, 1, 17, 70}};
            for (int[] step : steps) {
                due("report()", x.report(step[0], step[1], step[2]), 1);
                due("numerator after it", x.chance(0, false), step[3]);
                due("denominator after it", x.chance(0, true), step[4]);
            }
        });
        test("the chance that at least so many bad ones are among the treated ones", () -> {
            chanceOf(0, 5, 5, 5, 1, 1);
            chanceOf(5, 0, 0, 0, 1, 1);
            chanceOf(0, 5, 0, 0, 1, 1);
            chanceOf(0, 0, 5, 5, 1, 1);
            chanceOf(5, 0, 5, 0, 1, 1);
            chanceOf(0, 5, 0, 5, 1, 1);
            chanceOf(1, 0, 0, 1, 1, 2);
        });
        test("Tells the chance in lowest terms (1 without probes).", () -> {
            chanceOf(0, 0, 0, 0, 1, 1);
            chanceOf(2, 1, 1, 2, 1, 2);
            chanceOf(5, 1, 0, 6, 1, 132);
            chanceOf(25, 0, 0, 25, 1, 126410606437752L);
            chanceOf(0, 25, 25, 0, 1, 1);
            chanceOf(24, 1, 0, 25, 1, 4861946401452L);
            chanceOf(25, 0, 25, 0, 1, 1);
            StagedRollout x = inState(PLANNED);
            due("PLANNED: numerator", x.chance(0, false), 1);
            due("PLANNED: denominator", x.chance(0, true), 1);
        });
        test("Returns this number; BAD_INDEX.", () -> {
            StagedRollout x = begun();
            dueForAll("chance(_, false)", change -> x.chance(change, false), BAD_INDEX, -1, 1, 5, LEAST, MOST);
            dueForAll("chance(_, true)", change -> x.chance(change, true), BAD_INDEX, -1, 1, 5, LEAST, MOST);
            due("chance(0, false)", new StagedRollout().chance(0, false), BAD_INDEX);
        });
        test("where C(n, k) is the number of sets of k of n things", () -> {
            for (int a = 0; a <= 25; a += 5) {
                for (int c = 0; c <= 25; c++) {
                    BigInteger[] want = exactChance(a, 25 - a, c, 25 - c);
                    chanceOf(a, 25 - a, c, 25 - c, want[0].longValueExact(), want[1].longValueExact());
                }
            }
        });
    }

    private static BigInteger sets(int n, int k) {
        BigInteger result = BigInteger.ONE;
        for (int i = 1; i <= k; i++) {
            result = result.multiply(BigInteger.valueOf(n - k + i)).divide(BigInteger.valueOf(i));
        }
        return result;
    }

    private static BigInteger[] exactChance(int a, int b, int c, int d) {
        BigInteger sum = BigInteger.ZERO;
        for (int k = a; k <= a + b && k <= a + c; k++) {
            sum = sum.add(sets(a + c, k).multiply(sets(b + d, a + b - k)));
        }
        BigInteger all = sets(a + b + c + d, a + b);
        BigInteger divisor = sum.gcd(all);
        return new BigInteger[] {sum.divide(divisor), all.divide(divisor)};
    }

    private static void turnsAt(int limit, int a, int b, int c, int d, boolean isBad) {
        StagedRollout x = withProbes(a, b, c, d);
        x.setLimit(limit);
        x.pass(1);
        due("limit " + limit + " and " + a + ", " + b + ", " + c + ", " + d, x.change(0, 0), isBad ? TURNING : RUNNING);
    }

    private static void badChances() {
        test("The chance is bad if it is at most the limit", () -> {
            // 1 of 20, 1 of 19, 1 of 2, 1 of 6 and 17 of 70.
            turnsAt(49, 3, 0, 0, 3, false);
            turnsAt(50, 3, 0, 0, 3, true);
            turnsAt(51, 3, 0, 0, 3, true);
            turnsAt(52, 1, 0, 0, 18, false);
            turnsAt(53, 1, 0, 0, 18, true);
            turnsAt(499, 1, 0, 0, 1, false);
            turnsAt(500, 1, 0, 0, 1, true);
            turnsAt(166, 2, 0, 0, 2, false);
            turnsAt(167, 2, 0, 0, 2, true);
            turnsAt(242, 3, 1, 1, 3, false);
            turnsAt(243, 3, 1, 1, 3, true);
        });
        test("The chance is bad if it is at most the limit", () -> {
            for (int a = 1; a <= 25; a += 3) {
                for (int c = 0; c <= 25; c += 5) {
                    BigInteger[] chance = exactChance(a, 25 - a, c, 25 - c);
                    BigInteger thousand = BigInteger.valueOf(1000);
                    BigInteger above = chance[0].multiply(thousand).add(chance[1]).subtract(BigInteger.ONE);
                    int least = above.divide(chance[1]).intValueExact();
                    turnsAt(least, a, 25 - a, c, 25 - c, true);
                    turnsAt(least - 1, a, 25 - a, c, 25 - c, false);
                }
            }
        });
        test("which is from 0 to 1000 thousandths, at first 50.", () -> {
            int[] good = {3, 18};
            for (int i = 0; i < 2; i++) {
                StagedRollout x = new StagedRollout();
                startPlan(x, false, 48);
                x.pass(1);
                report(x, 0, i == 0 ? 3 : 1, 0);
                report(x, 1, 0, good[i]);
                x.pass(1);
                due(i == 0 ? "1 of 20" : "1 of 19", x.change(0, 0), i == 0 ? TURNING : RUNNING);
            }
            turnsAt(0, 25, 0, 0, 25, false);
            turnsAt(1, 25, 0, 0, 25, true);
        });
        test("(With the limit 1000 each chance is bad, also without probes.)", () -> {
            turnsAt(1000, 0, 0, 0, 0, true);
            turnsAt(999, 0, 0, 0, 0, false);
            turnsAt(1000, 0, 9, 9, 0, true);
            turnsAt(999, 0, 9, 9, 0, false);
            turnsAt(1000, 0, 25, 25, 0, true);
            turnsAt(1000, 13, 12, 12, 13, true);
        });
    }
}
