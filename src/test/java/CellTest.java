/** Promise 14, and how a record is written. */
public final class CellTest {
    public static void main(String[] args) {
        tellsARecord();
        answersZeroBesideTheStore();
        Checks.end("CellTest");
    }

    private static int seal(int... cells) {
        int x = 7;
        for (int cell : cells) {
            x = (x ^ cell) * 16777619 + 1;
        }
        return x & 0x7fffffff;
    }

    private static String record(int... cells) {
        StringBuilder text = new StringBuilder();
        for (int cell : cells) {
            text.append(cell).append(' ');
        }
        return text.append(seal(cells)).toString();
    }

    private static void tellsARecord() {
        KeyToken token = new KeyToken();
        Wire.askPressed(token, Wire.make(9, "abcdefgh", 70000));
        int party = Wire.numberOfText("abcdefgh");
        Checks.same("a credential", Wire.page(token, 0), record(1 + 16, party, 70000, 1, 0));
        Wire.ask(token, Wire.setPin("zzzzzzzz"));
        int pin = Wire.numberOfText("zzzzzzzz");
        Checks.same("the PIN", Wire.page(token, 1), record(16 * 2, pin, 8, 0, 0));
        Wire.askPressed(token, Wire.sign("abcdefgh", 1));
        Checks.same("with counter 1", Wire.page(token, 2), record(1 + 16 * 3, party, 70000, 1, 1));
        Checks.same("the page before is erased", Wire.page(token, 0), "-1 -1 -1 -1 -1 -1");
        Wire.ask(token, Wire.ticket("zzzz"));
        Checks.same("the least erased page", Wire.page(token, 0), record(16 * 4, pin, 7, 0, 0));
        String store = Wire.store(token);
        token.power(false);
        Checks.same("without power", Wire.store(token), store);
    }

    private static void answersZeroBesideTheStore() {
        KeyToken token = new KeyToken();
        Checks.same("the last cell", token.cell(6, 5), -1);
        int[][] none = {{-1, 0}, {7, 0}, {0, -1}, {0, 6}, {1, -6}, {Integer.MAX_VALUE, 0}, {0, Integer.MIN_VALUE}};
        for (int[] n : none) {
            Checks.same("cell " + n[0] + ", " + n[1], token.cell(n[0], n[1]), 0);
        }
    }
}
