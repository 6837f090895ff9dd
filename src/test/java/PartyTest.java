/** Promise 13. */
public final class PartyTest {
    public static void main(String[] args) {
        Bench token = new Bench();
        for (int k = 0; k < 6; k++) {
            Checks.same("before it, key " + k, token.party(2, 10 + k), -1);
            Checks.same("before it, user " + k, token.party(2, 20 + k), -1);
            Checks.same("before it, last " + k, token.party(2, 30 + k), -1);
            int challenge = token.open(2, 40 + k);
            Checks.same("open", token.party(2, 1), challenge);
            token.press();
            token.ceremony(2, 2, true, 0);
            Checks.same("not open", token.party(2, 1), 0);
            Checks.same("so many", token.party(2, 0), k + 1);
            token.open(2, 0);
            token.press();
            Checks.same("assert", token.ceremony(2, 2, false, 0), 0);
        }
        for (int k = 0; k < 6; k++) {
            Checks.same("key " + k, token.party(2, 10 + k), k + 1);
            Checks.same("user " + k, token.party(2, 20 + k), 40 + k);
            Checks.same("last " + k, token.party(2, 30 + k), 1);
        }
        int[] none = {-1, 2, 9, 16, 19, 26, 29, 36, 40, 100, -10, -20, Integer.MIN_VALUE, Integer.MAX_VALUE};
        for (int what : none) {
            Checks.same("what " + what, token.party(2, what), -1);
        }
        int[] parties = {-1, 4, Integer.MIN_VALUE, Integer.MAX_VALUE};
        for (int party : parties) {
            Checks.same("party " + party, token.party(party, 0), -1);
            Checks.same("its challenge", token.party(party, 1), -1);
        }
        Checks.same("another party has none", token.party(1, 0), 0);
        Checks.same("nor a key", token.party(1, 10), -1);
        token.power(false);
        Checks.same("without power", token.party(2, 0), 6);
        Checks.end("PartyTest");
    }
}
