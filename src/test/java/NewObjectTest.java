/** Promise 1. */
public final class NewObjectTest {
    public static void main(String[] args) {
        Bench token = new Bench();
        Checks.same("store", Wire.store(token), "-1 -1 -1 -1 -1 -1|".repeat(7));
        int[] looks = {1, 0, 0, 0, 0, 0, 0, 0, 0};
        for (int what = 0; what < looks.length; what++) {
            Checks.same("look " + what, token.look(what), looks[what]);
        }
        Checks.same("waiting", token.waiting(), 0);
        for (int party = 0; party < 4; party++) {
            Checks.same("registrations of " + party, token.party(party, 0), 0);
            Checks.same("challenge of " + party, token.party(party, 1), 0);
        }
        Checks.same("no cut", Wire.ask(token, Wire.setPin("1234")), 0);
        Checks.same("one object tells nothing of another", Wire.store(new Bench()), "-1 -1 -1 -1 -1 -1|".repeat(7));
        Checks.end("NewObjectTest");
    }
}
