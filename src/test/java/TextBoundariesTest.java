/** The boundary sentences on the text: promises 11 to 14. */
public final class TextBoundariesTest extends Boundaries {
    public static void main(String[] args) {
        lettersAndLength();
        form();
        ends();
        faults();
        numbers();
        reading();
        end("text boundaries");
    }

    private static void fault(int cells, String text, int want) {
        StagedRollout x = fleet(cells);
        write(x, text);
        due("faultPosition() of \"" + text + "\" with " + cells + " cells", x.faultPosition(), want);
        x.addChange(false);
        due("read() of \"" + text + "\" with " + cells + " cells", x.read(0),
            want == NONE ? text.length() - text.replace(";", "").length() : NOT_POSSIBLE);
    }

    private static void fault(String text, int want) {
        fault(8, text, want);
    }

    private static void lettersAndLength() {
        test("`letter`: 0 to 127", () -> {
            StagedRollout x = new StagedRollout();
            due("append(0)", x.append(0), 1);
            due("append(127)", x.append(127), 2);
            dueForAll("append()", x::append, BAD_VALUE, -1, 128, 255, 256, 304, LEAST, MOST);
            due("clearText()", x.clearText(), 2);
        });
        test("The text has at most 60 bytes.", () -> {
            StagedRollout x = new StagedRollout();
            for (int i = 1; i <= 60; i++) {
                due("append(48)", x.append(48), i);
            }
            due("a 61st", x.append(48), FULL);
            due("a 61st again", x.append(59), FULL);
            due("clearText()", x.clearText(), 60);
            due("append(48), with room again", x.append(48), 1);
        });
        test("Returns the length of the text; BAD_VALUE; FULL if it has 60 bytes.", () -> {
            StagedRollout x = new StagedRollout();
            String text = "0:10/10;1:10/10;2:10/10;3:10/10;";
            for (int i = 0; i < text.length(); i++) {
                due("append()", x.append(text.charAt(i)), i + 1);
            }
            due("a wrong letter", x.append(128), BAD_VALUE);
            due("the length stays", x.append('4'), text.length() + 1);
        });
        test("Empties the text.", () -> {
            StagedRollout x = new StagedRollout();
            write(x, "0:1/2");
            due("faultPosition()", x.faultPosition(), 5);
            due("clearText()", x.clearText(), 5);
            due("faultPosition() of the empty text", x.faultPosition(), NONE);
            due("append(';')", x.append(';'), 1);
            due("nothing of the old text is left", x.faultPosition(), 0);
        });
        test("Returns the length that it had.", () -> {
            StagedRollout x = new StagedRollout();
            due("clearText() of the empty text", x.clearText(), 0);
            x.append(1);
            due("clearText() of one byte", x.clearText(), 1);
            due("clearText() again", x.clearText(), 0);
        });
    }

    private static void form() {
        test("It consists of stages, perhaps none, each followed by a semicolon", () -> {
            fault("", NONE);
            fault("0:0/0;", NONE);
            fault("0:0/0;1:0/0;", NONE);
            fault(SIX_STAGES, NONE);
            fault(";", 0);
            fault("0:0/0;;", 6);
            fault("0:0/0", 5);
            fault("0:0/0,", 5);
            fault("0:0/0 ;", 5);
            fault("0:0/01:0/0;", 5);
        });
        test("the digits of its cells in ascending order, each one once", () -> {
            fault("01234567:0/0;", NONE);
            fault("0246:0/0;1357:0/0;", NONE);
            fault("7:0/0;0:0/0;", NONE);
            fault("10:0/0;", 1);
            fault("021:0/0;", 2);
            fault("76", 1);
            fault("00:0/0;", 1);
            fault("77:0/0;", 1);
            fault("0120:0/0;", 3);
            fault("012345670", 8);
            fault("012345677", 8);
        });
        test("a colon, the wait, a slash and the samples.", () -> {
            fault(":0/0;", 0);
            fault("/", 0);
            fault("0/0;", 1);
            fault("0;", 1);
            fault("0::0/0;", 2);
            fault("0:/0;", 2);
            fault("0:0:0;", 3);
            fault("0:0;", 3);
            fault("0:0//0;", 4);
            fault("0:0/;", 4);
            fault("0:0/:", 4);
            fault("0:0/0/", 5);
            fault("0:0/0:", 5);
        });
        test("of the first byte with which the text does not follow this form", () -> {
            int[] odd = {0, 1, 32, 43, 45, 46, 60, 65, 97, 127};
            String text = "01:23/4;";
            for (int place = 0; place < text.length(); place++) {
                for (int letter : odd) {
                    fault(text.substring(0, place) + (char) letter + text.substring(place + 1), place);
                }
            }
            fault("x;x;x", 0);
            fault("0:0/0;x:99/99;", 6);
        });
    }

    private static void ends() {
        test("or its length if it ends too early", () -> {
            String text = "0:0/0;17:10/9;2:48/25;";
            for (int length = 1; length <= text.length(); length++) {
                String start = text.substring(0, length);
                fault(start, start.endsWith(";") ? NONE : length);
            }
        });
        test("or its length if it ends too early", () -> {
            StringBuilder text = new StringBuilder();
            for (int i = 0; i < 5; i++) {
                text.append(i).append(":10/10;");
            }
            text.append("567:48/25;");
            fault(text.toString(), NONE);
            fault(text.substring(0, text.length() - 1), text.length() - 1);
        });
        test("Returns the fault position of the text; NONE if it has no fault.", () -> {
            StagedRollout x = fleet(8);
            due("an empty text", x.faultPosition(), NONE);
            x.append('9');
            due("the first byte", x.faultPosition(), 0);
            x.clearText();
            for (int i = 0; i < 60; i++) {
                x.append(';');
            }
            due("60 bytes", x.faultPosition(), 0);
            write(x, "0:1/2;");
            due("no fault", x.faultPosition(), NONE);
            due("asked again", x.faultPosition(), NONE);
            due("the text stays", x.clearText(), 6);
        });
    }

    private static void faults() {
        test("a digit of a cell that does not exist is a fault", () -> {
            for (int cells = 1; cells <= 8; cells++) {
                fault(cells, (cells - 1) + ":0/0;", NONE);
                fault(cells, cells + ":0/0;", 0);
                fault(cells, "0" + cells + ":0/0;", 1);
                fault(cells, "9:0/0;", 0);
                fault(cells, "09:0/0;", 1);
                fault(cells, "0:0/0;" + cells + ":0/0;", 6);
            }
        });
        test("a digit of a cell that does not exist is a fault", () -> {
            StagedRollout x = fleet(8);
            write(x, "7:1/1;");
            due("with 8 cells", x.faultPosition(), NONE);
            x.begin(7);
            due("with 7 cells", x.faultPosition(), 0);
            x.save(0);
            x.begin(8);
            due("with 8 cells again", x.faultPosition(), NONE);
            x.restore(0);
            due("with 7 cells restored", x.faultPosition(), 0);
        });
        test("and so are a cell that an earlier stage of the text has", () -> {
            fault("0:0/0;0:0/0;", 6);
            fault("0:0/0;01:0/0;", 6);
            fault("1:0/0;01:0/0;", 7);
            fault("07:0/0;17:0/0;", 8);
            fault("0:0/0;1:0/0;2:0/0;3:0/0;4:0/0;0:0/0;", 30);
            fault("0:0/0;1:0/0;2:0/0;3:0/0;4:0/0;54:0/0;", 31);
            fault("0:0/0;1:0/0;2:0/0;3:0/0;4:0/0;45:0/0;", 30);
        });
        test("and so are a cell that an earlier stage of the text has", () -> {
            StagedRollout x = fleet(4);
            x.addChange(false);
            x.addStage(0, 15, 0, 0);
            write(x, "0:1/1;");
            due("a cell that only the plan has", x.faultPosition(), NONE);
            due("read(0)", x.read(0), 1);
            due("read(0) again", x.read(0), 1);
        });
        test("and the first digit of a 7th stage.", () -> {
            fault(SIX_STAGES, NONE);
            fault(SIX_STAGES + "6", 36);
            fault(SIX_STAGES + "6:0/0;", 36);
            fault(SIX_STAGES + "67:0/0;7", 36);
            fault(SIX_STAGES + "0:0/0;", 36);
            fault("01:48/25;2:48/25;3:48/25;4:48/25;5:48/25;6:48/25;7:1/1;", 49);
            fault("0:0/0;1:0/0;2:0/0;3:0/0;4:0/0;567:0/0;", NONE);
        });
    }

    private static void numbers() {
        test("Numbers have one or two digits, the first one not 0 unless it is the only one.", () -> {
            fault("0:0/0;", NONE);
            fault("0:9/9;", NONE);
            fault("0:10/10;", NONE);
            fault("0:00/0;", 3);
            fault("0:01/0;", 3);
            fault("0:09/0;", 3);
            fault("0:099/0;", 3);
            fault("0:0/00;", 5);
            fault("0:0/01;", 5);
            fault("0:0/099;", 5);
            fault("0:100/0;", 4);
            fault("0:0/100;", 6);
        });
        test("the first digit of a number that is out of its range", () -> {
            for (int number = 10; number <= 99; number++) {
                fault("0:" + number + "/0;", number <= 48 ? NONE : 2);
                fault("0:0/" + number + ";", number <= 25 ? NONE : 4);
            }
            fault("0:49", 2);
            fault("0:0/26", 4);
            fault("0:49x", 2);
            fault("0:0/26x", 4);
        });
        test("the first digit of a number that is out of its range", () -> {
            for (int digit = 0; digit <= 9; digit++) {
                fault("0:" + digit, 3);
                fault("0:" + digit + "/" + digit, 5);
                fault("0:" + digit + "/" + digit + ";", NONE);
            }
        });
        test("(A number is what its first digits, two at most, make: of 490 for a wait, 49 is out of its range.)", () -> {
            fault("0:490/0;", 2);
            fault("0:480/0;", 4);
            fault("0:489", 4);
            fault("0:100", 4);
            fault("0:999", 2);
            fault("0:0/260;", 4);
            fault("0:0/250;", 6);
            fault("0:0/255", 6);
            fault("0:0/999", 4);
        });
    }

    private static void reading() {
        test("Makes the stages of the text the plan of a change, in place of its stages.", () -> {
            StagedRollout x = fleet(8);
            plan(x, false, 5, 5, 5, 5, 5, 5);
            write(x, "07:48/25;");
            due("one stage for six", x.read(0), 1);
            int[] want = {129, 48, 25};
            for (int what = 0; what < 3; what++) {
                due("stage(0, 0, " + what + ")", x.stage(0, 0, what), want[what]);
            }
            due("stage(0, 1, 0)", x.stage(0, 1, 0), BAD_INDEX);
            due("a cell of the plan before", x.addStage(0, 2, 0, 0), 2);
            write(x, SIX_STAGES);
            due("six stages for two", x.read(0), 6);
            due("the sixth one", x.stage(0, 5, 0), 32);
            due("a seventh", x.addStage(0, 192, 0, 0), FULL);
            x.clearText();
            due("none for six", x.read(0), 0);
            due("start() without stages", x.start(0), NOT_POSSIBLE);
            due("addStage()", x.addStage(0, 255, 0, 0), 1);
        });
        test("The text stays.", () -> {
            StagedRollout x = fleet(4);
            x.addChange(false);
            x.addChange(false);
            write(x, "0:1/2;3:4/5;");
            due("read(0)", x.read(0), 2);
            due("read(1)", x.read(1), 2);
            due("stage(1, 1, 0)", x.stage(1, 1, 0), 8);
            due("clearText()", x.clearText(), 12);
            due("the plans do not need it any more", x.stage(0, 1, 2), 5);
        });
        test("Returns the number of stages; BAD_INDEX; NOT_POSSIBLE if the text has a fault, or the change is not PLANNED.", () -> {
            StagedRollout none = fleet(4);
            none.addChange(false);
            dueForAll("read()", none::read, BAD_INDEX, -1, 1, 4, 5, LEAST, MOST);
            due("read() of an empty text", none.read(0), 0);
            none.append('0');
            due("read() of a fault", none.read(0), NOT_POSSIBLE);
            due("read() of a fault, and no such change", none.read(1), BAD_INDEX);
            for (int state = PLANNED; state <= TURNED; state++) {
                StagedRollout x = inState(state);
                write(x, "3:1/1;");
                due("read() in the state " + state, x.read(0), state == PLANNED ? 1 : NOT_POSSIBLE);
                due("the plan", x.change(0, 1), state == PLANNED ? 1 : 2);
                x.clearText();
                due("the empty text in the state " + state, x.read(0), state == PLANNED ? 0 : NOT_POSSIBLE);
            }
        });
    }
}
