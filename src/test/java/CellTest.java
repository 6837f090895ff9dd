/** Promise 14, and how a record is written. */
public final class CellTest {
    public static void main(String[] args) {
        tellsARecord();
        answersZeroBesideTheStore();
        Checks.end("CellTest");
    }

    private static void tellsARecord() {
        Bench token = new Bench();
        Wire.askPressed(token, Wire.make(9, "abcdefgh", 70000));
        int party = Wire.numberOfText("abcdefgh");
        Checks.same("a credential", Wire.page(token, 0), Wire.record(1, 1, party, 70000, 1, 0));
        Wire.ask(token, Wire.setPin("zzzzzzzz"));
        int pin = Wire.numberOfText("zzzzzzzz");
        Checks.same("the PIN", Wire.page(token, 1), Wire.record(0, 2, pin, 8, 0, 0));
        Wire.askPressed(token, Wire.sign("abcdefgh", 1));
        Checks.same("with counter 1", Wire.page(token, 2), Wire.record(1, 3, party, 70000, 1, 1));
        Checks.same("the page before is erased", Wire.page(token, 0), Wire.BLANK);
        Wire.ask(token, Wire.ticket("zzzz"));
        Checks.same("the least erased page", Wire.page(token, 0), Wire.record(0, 4, pin, 7, 0, 0));
        String store = Wire.store(token);
        token.power(false);
        Checks.same("without power", Wire.store(token), store);
    }

    private static void answersZeroBesideTheStore() {
        Bench token = new Bench();
        Checks.same("the last cell", token.cell(6, 5), -1);
        int[][] none = {{-1, 0}, {7, 0}, {0, -1}, {0, 6}, {1, -6}, {Integer.MAX_VALUE, 0}, {0, Integer.MIN_VALUE}};
        for (int[] n : none) {
            Checks.same("cell " + n[0] + ", " + n[1], token.cell(n[0], n[1]), 0);
        }
    }
}
