/** Promise 5. */
public final class WaitingTest {
    public static void main(String[] args) {
        Bench token = new Bench();
        Checks.same("at first", token.waiting(), 0);
        Wire.feed(token, Wire.INFO);
        Checks.same("input is no output", token.waiting(), 0);
        token.send();
        Checks.same("all of it", token.waiting(), 8);
        Checks.same("asking takes nothing", token.waiting(), 8);
        token.take();
        Checks.same("none", token.waiting(), 0);
        Wire.askPressed(token, Wire.make(70000, "a", 70000));
        Wire.askPressed(token, Wire.sign("a", 1));
        Checks.same("a long one", token.waiting(), 18);
        token.take();
        Checks.same("less eight", token.waiting(), 10);
        token.take();
        Checks.same("less sixteen", token.waiting(), 2);
        token.power(false);
        Checks.same("gone with the power", token.waiting(), 0);
        token.power(true);
        Checks.same("for good", token.waiting(), 0);
        Checks.end("WaitingTest");
    }
}
