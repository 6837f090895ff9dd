/** Promise 15. */
public final class LookTest {
    public static void main(String[] args) {
        Bench token = new Bench();
        looks("new", token, 1, 0, 0, 0, 0, 0, 0, 0, 0);
        token.press();
        token.feed(0, 3);
        looks("pressed, fed", token, 1, 1, 0, 0, 0, 0, 3, 0, 0);
        token.send();
        looks("sent", token, 1, 1, 0, 0, 0, 0, 0, 0, 0);
        Wire.ask(token, Wire.make(1, "a", 1));
        looks("made", token, 1, 0, 0, 0, 0, 6, 0, 1, 1);
        Wire.askPressed(token, Wire.make(1, "a", 2));
        Wire.askPressed(token, Wire.make(1, "a", 3));
        Wire.askPressed(token, Wire.sign("a", 1));
        looks("asserted", token, 1, 0, 0, 0, 2, 25, 0, 3, 4);
        Wire.ask(token, Wire.NEXT);
        looks("next", token, 1, 0, 0, 0, 1, 32, 0, 3, 5);
        Wire.ask(token, Wire.setPin("1234"));
        looks("a PIN", token, 1, 0, 0, 0, 0, 38, 0, 3, 5);
        Wire.ask(token, Wire.ticket("1234"));
        looks("a ticket", token, 1, 0, 0, 1, 0, 52, 0, 3, 5);
        Wire.ask(token, Wire.ticket("0000"));
        looks("a wrong PIN", token, 1, 0, 1, 0, 0, 59, 0, 3, 5);
        token.power(false);
        looks("without power", token, 0, 0, 0, 0, 0, 59, 0, 3, 5);
        int[] none = {-1, 9, 10, Integer.MIN_VALUE, Integer.MAX_VALUE};
        for (int what : none) {
            Checks.same("look " + what, token.look(what), -1);
        }
        Checks.end("LookTest");
    }

    private static void looks(String when, Bench token, int... due) {
        for (int what = 0; what < due.length; what++) {
            Checks.same(when + ", look " + what, token.look(what), due[what]);
        }
    }
}
