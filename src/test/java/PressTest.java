/** Promise 2. */
public final class PressTest {
    public static void main(String[] args) {
        pressesOnce();
        isUsedUpWhereItIsLookedAt();
        isRefusedWithoutPower();
        Checks.end("PressTest");
    }

    private static void pressesOnce() {
        Bench token = new Bench();
        Checks.same("press", token.press(), true);
        Checks.same("it is pressed", token.look(1), 1);
        Checks.same("press again", token.press(), true);
        Checks.same("two presses serve", Wire.ask(token, Wire.make(1, "a", 1)), 0);
        Checks.same("one request alone", Wire.ask(token, Wire.make(1, "a", 1)), 7);
        Checks.same("RESET wants its own", Wire.ask(token, Wire.RESET), 7);
        Checks.same("ASSERT wants its own", Wire.ask(token, Wire.sign("a", 1)), 7);
    }

    private static void isUsedUpWhereItIsLookedAt() {
        Bench token = new Bench();
        token.press();
        Wire.ask(token, "01 a0");
        Checks.same("a missing parameter leaves it", token.look(1), 1);
        Wire.ask(token, Wire.sign("a", 1));
        Checks.same("no credentials leave it", token.look(1), 1);
        Wire.ask(token, Wire.INFO);
        Wire.ask(token, Wire.setPin("1234"));
        Wire.ask(token, Wire.make(1, "a", 1));
        Checks.same("a wanted ticket leaves it", token.look(1), 1);
        Checks.same("RESET", Wire.ask(token, Wire.RESET), 0);
        Checks.same("RESET uses it up", token.look(1), 0);
        for (int user = 0; user < 6; user++) {
            Checks.same("credential " + user, Wire.askPressed(token, Wire.make(1, "a", user)), 0);
        }
        Checks.same("full", Wire.askPressed(token, Wire.make(1, "a", 6)), 6);
        Checks.same("full, but looked at", token.look(1), 0);
        Checks.same("assert", Wire.askPressed(token, Wire.sign("a", 1)), 0);
        Checks.same("ASSERT uses it up", token.look(1), 0);
        token.press();
        Wire.ask(token, Wire.NEXT);
        Checks.same("NEXT wants none", token.look(1), 1);
    }

    private static void isRefusedWithoutPower() {
        Bench token = new Bench();
        token.press();
        token.power(false);
        Checks.same("gone with the power", token.look(1), 0);
        Checks.same("refused", token.press(), false);
        Checks.same("not pressed", token.look(1), 0);
        token.power(true);
        Checks.same("not pressed when the power comes", token.look(1), 0);
    }
}
