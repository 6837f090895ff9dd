import java.util.NoSuchElementException;

/** Promise 12. */
public final class SignatureTest {
    public static void main(String[] args) {
        tellsFields();
        keepsForty();
        refusesWrongCalls();
        Checks.end("SignatureTest");
    }

    private static void fields(String what, Bench token, int number, int... due) {
        for (int field = 1; field <= 6; field++) {
            Checks.same(what + ", field " + field, token.signature(number, field), due[field - 1]);
        }
    }

    private static void tellsFields() {
        Bench token = new Bench();
        Wire.askPressed(token, Wire.make(70000, "abcdefgh", 3));
        fields("made", token, 1, 1, 1, Wire.numberOfText("abcdefgh"), 70000, 0, 0);
        Wire.askPressed(token, Wire.sign("abcdefgh", Integer.MAX_VALUE));
        fields("asserted", token, 2, 2, 1, Wire.numberOfText("abcdefgh"), Integer.MAX_VALUE, 1, 0);
        Wire.ask(token, Wire.setPin("1234"));
        Wire.ask(token, Wire.ticket("1234"));
        Wire.askPressed(token, Wire.makeWith(1, "b", 3, 1));
        fields("made with a PIN", token, 3, 1, 2, 753, 1, 0, 1);
        Wire.askPressed(token, Wire.sign("b", 2));
        fields("without a ticket", token, 4, 2, 2, 753, 2, 1, 0);
        Wire.askPressed(token, Wire.signWith("b", 2, 1));
        fields("with a ticket", token, 5, 2, 2, 753, 2, 2, 1);
        token.power(false);
        fields("without power", token, 5, 2, 2, 753, 2, 2, 1);
    }

    private static Bench signed(int count) {
        Bench token = new Bench();
        for (int number = 1; number <= count; number++) {
            Wire.askPressed(token, Wire.make(number, "a", 5));
        }
        return token;
    }

    private static void keepsForty() {
        for (int count = 1; count <= 82; count++) {
            Bench token = signed(count);
            for (int old = Math.max(1, count - 39); old <= count; old++) {
                Checks.same("challenge of " + old + " of " + count, token.signature(old, 4), old);
            }
            int gone = count - 40;
            int to = count + 1;
            Checks.raises("number " + gone + " of " + count, NoSuchElementException.class, () -> token.signature(gone, 4));
            Checks.raises("number " + to + " of " + count, NoSuchElementException.class, () -> token.signature(to, 4));
        }
    }

    private static void refusesWrongCalls() {
        Checks.raises("none yet", NoSuchElementException.class, () -> new Bench().signature(1, 1));
        int[][] wrong = {{0, 1}, {2, 1}, {-1, 1}, {1, 0}, {1, 7}, {1, -1}, {Integer.MIN_VALUE, 1}, {Integer.MAX_VALUE, 1}};
        for (int[] w : wrong) {
            Twins.keeps("signature " + w[0] + ", " + w[1], () -> signed(1), NoSuchElementException.class,
                    t -> t.signature(w[0], w[1]));
        }
    }
}
