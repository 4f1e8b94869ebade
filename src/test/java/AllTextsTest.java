/** Whole families of texts, each text with the fault position and the plan that the Reference finds. */
public final class AllTextsTest extends Boundaries {
    public static void main(String[] args) {
        test("the digits of its cells in ascending order, each one once", AllTextsTest::cellDigits);
        test("a cell that an earlier stage of the text has", AllTextsTest::pairsOfSets);
        test("Numbers have one or two digits, the first one not 0 unless it is the only one.", AllTextsTest::numbers);
        test("the first byte with which the text does not follow this form", AllTextsTest::wrongBytes);
        end("all texts");
    }

    private static void compare(int cells, String text) {
        StagedRollout x = fleet(cells);
        write(x, text);
        Reference reference = new Reference();
        reference.begin(cells);
        reference.text = text;
        int fault = reference.faultPosition();
        String of = " of \"" + text + "\" with " + cells + " cells";
        due("faultPosition()" + of, x.faultPosition(), fault);
        x.addChange(false);
        reference.addChange(false);
        due("read()" + of, x.read(0), reference.read(0));
        for (int i = 0; i < 18 && fault == NONE; i++) {
            due("stage(0, " + i / 3 + ", " + i % 3 + ")" + of, x.stage(0, i / 3, i % 3),
                reference.stage(0, i / 3, i % 3));
        }
    }

    /** All digits up to three of them, in fleets of every size, with and without what comes after. */
    private static void cellDigits() {
        for (int cells = 1; cells <= 8; cells++) {
            for (int digits = 1; digits <= 3; digits++) {
                for (int i = 0; i < Math.pow(10, digits); i++) {
                    String list = String.format("%0" + digits + "d", i);
                    compare(cells, list);
                    compare(cells, list + ":1/2;");
                    compare(cells, "0:0/0;" + list + ":1/2;");
                }
            }
        }
    }

    private static String digitsOf(int set) {
        StringBuilder digits = new StringBuilder();
        for (int i = 0; i < 8; i++) {
            digits.append((set >> i & 1) != 0 ? String.valueOf(i) : "");
        }
        return digits.toString();
    }

    private static void pairsOfSets() {
        for (int first = 1; first < 256; first++) {
            for (int second = 0; second < 256; second++) {
                compare(8, digitsOf(first) + ":3/4;" + digitsOf(second) + ":5/6;");
            }
        }
    }

    /** All digits up to three of them, as a wait and as samples, with and without what comes after. */
    private static void numbers() {
        for (int digits = 1; digits <= 3; digits++) {
            for (int i = 0; i < Math.pow(10, digits); i++) {
                String number = String.format("%0" + digits + "d", i);
                for (String text : new String[] {number, number + "/", number + "/3;", number + ":", number + ";",
                        "7/" + number, "7/" + number + ";", "7/" + number + "/", "7/" + number + ";1:0/0;"}) {
                    compare(2, "0:" + text);
                }
            }
        }
    }

    /** Each byte of some texts in place of each other one, put in, and left out; and each beginning of the text. */
    private static void wrongBytes() {
        String[] texts = {"", "0:0/0;", "03:48/25;12:10/9;", "0:1/1;1:2/2;2:3/3;3:4/4;4:5/5;567:6/6;", SIX_STAGES};
        for (String text : texts) {
            for (int i = 0; i <= text.length(); i++) {
                String before = text.substring(0, i);
                String after = i < text.length() ? text.substring(i + 1) : "";
                compare(8, before);
                compare(8, before + after);
                for (char letter = 0; letter <= 127; letter++) {
                    compare(8, before + letter);
                    compare(8, before + letter + after);
                    compare(8, before + letter + text.substring(i));
                }
            }
        }
    }
}
