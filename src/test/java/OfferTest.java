import java.util.NoSuchElementException;

/** Promise 11, and how a party judges. */
public final class OfferTest {
    public static void main(String[] args) {
        judgesInOrder();
        registersOnlyOnce();
        registersAtMostSix();
        wantsAGreaterCounter();
        takesWhatIsNotAltered();
        knowsTheLatestForty();
        refusesWrongCalls();
        Checks.end("OfferTest");
    }

    private static void judgesInOrder() {
        Bench token = new Bench();
        token.open(1, 5);
        Wire.askPressed(token, Wire.make(4 + 1, "a", 5));
        Wire.askPressed(token, Wire.make(4 + 1, "b", 5));
        Wire.askPressed(token, Wire.make(4 + 2, "b", 5));
        String parties = Wire.parties(token);
        Checks.same("another party's challenge", token.offer(1, 3, 0, 0), 2);
        Checks.same("another text", token.offer(1, 1, 0, 0), 3);
        Checks.same("the challenge comes first", token.offer(1, 1, 4, 1), 2);
        Checks.same("the party altered away", token.offer(1, 2, 3, 1), 3);
        Checks.same("the party altered to the right one", token.offer(1, 1, 3, 1), 6);
        Checks.same("the challenge altered to the right one", token.offer(1, 3, 4, -1), 6);
        Checks.same("the type", token.offer(1, 2, 1, 1), 6);
        Checks.same("the key", token.offer(1, 2, 2, 1), 6);
        Checks.same("the counter", token.offer(1, 2, 5, Integer.MIN_VALUE), 6);
        Checks.same("nothing has changed", Wire.parties(token), parties);
        Checks.same("not altered", token.offer(1, 2, 0, 0), 0);
    }

    private static void registersOnlyOnce() {
        Bench token = new Bench();
        Wire.askPressed(token, Wire.make(4, "a", 5));
        Wire.askPressed(token, Wire.make(8, "a", 5));
        Wire.askPressed(token, Wire.sign("a", 8));
        token.open(0, 33);
        Checks.same("register", token.offer(0, 1, 0, 0), 0);
        Checks.same("not open any more", token.party(0, 1), 0);
        Checks.same("for the open one's user", token.party(0, 20), 33);
        token.open(0, 34);
        Checks.same("a key that is not registered", token.offer(0, 3, 0, 0), 8);
        Checks.same("still open", token.party(0, 1), 2);
        Checks.same("register it", token.offer(0, 2, 0, 0), 0);
        Checks.same("two", token.party(0, 0), 2);

        Bench again = new Bench();
        Wire.askPressed(again, Wire.make(4, "a", 5));
        again.open(0, 1);
        again.offer(0, 1, 0, 0);
        Checks.raises("closed", IllegalStateException.class, () -> again.offer(0, 1, 0, 0));
        again.open(0, 1);
        Checks.same("an old challenge", again.offer(0, 1, 0, 0), 2);
        again.press();
        again.ceremony(0, 0, true, 0);
        again.open(0, 1);
        Checks.same("its key is registered", again.party(0, 11), 2);
    }

    private static void registersAtMostSix() {
        Bench token = new Bench();
        for (int round = 1; round <= 7; round++) {
            token.open(0, round);
            token.press();
            Checks.same("round " + round, token.ceremony(0, 0, true, 0), round <= 6 ? 0 : 106);
        }
        Wire.askPressed(token, Wire.make(4 * 7, "a", 1));
        Checks.same("a seventh", token.offer(0, token.look(8), 0, 0), 9);
        Checks.same("still six", token.party(0, 0), 6);
        Checks.same("still open", token.party(0, 1), 7);
        Checks.same("assert", Wire.askPressed(token, Wire.signAllowed("a", 4 * 7, 2)), 0);
        Checks.same("the six go on", token.offer(0, token.look(8), 0, 0), 0);
    }

    private static void wantsAGreaterCounter() {
        Bench token = new Bench();
        token.open(0, 1);
        token.press();
        token.ceremony(0, 0, true, 0);
        Wire.askPressed(token, Wire.sign("a", 12));
        Wire.askPressed(token, Wire.sign("a", 8));
        Wire.askPressed(token, Wire.sign("a", 12));
        token.open(0, 1);
        Checks.same("counter 2", token.offer(0, 3, 0, 0), 0);
        Checks.same("last", token.party(0, 30), 2);
        token.open(0, 1);
        Checks.same("counter 1", token.offer(0, 2, 0, 0), 7);
        Checks.same("last stays", token.party(0, 30), 2);
        Checks.same("still open", token.party(0, 1), 3);
        Checks.same("counter 1 altered", token.offer(0, 2, 5, 5), 6);
        Checks.same("counter 3", token.offer(0, 4, 0, 0), 0);
        Checks.same("last", token.party(0, 30), 3);

        Bench same = new Bench();
        Wire.askPressed(same, Wire.make(8, "a", 1));
        same.open(0, 1);
        same.open(0, 1);
        same.offer(0, 1, 0, 0);
        same.open(0, 1);
        Wire.askPressed(same, Wire.sign("a", 12));
        Checks.same("1 is greater than 0", same.offer(0, 2, 0, 0), 0);
    }

    private static void takesWhatIsNotAltered() {
        for (int what = 0; what <= 5; what++) {
            Bench token = new Bench();
            Wire.askPressed(token, Wire.make(4, "a", 5));
            token.open(0, 1);
            Checks.same("field " + what + " by 0", token.offer(0, 1, what, 0), 0);
        }
        Bench token = new Bench();
        Wire.askPressed(token, Wire.make(4, "a", 5));
        token.open(0, 1);
        Checks.same("no field by 7", token.offer(0, 1, 0, 7), 0);
        token.power(false);
        token.open(0, 1);
        Checks.same("no power is needed", token.offer(0, 1, 0, 0), 2);
    }

    private static void knowsTheLatestForty() {
        Bench token = new Bench();
        for (int number = 1; number <= 41; number++) {
            Wire.askPressed(token, Wire.make(4, "a", 5));
        }
        token.open(0, 1);
        Checks.raises("the 41st latest", NoSuchElementException.class, () -> token.offer(0, 1, 0, 0));
        Checks.same("the 40th latest", token.offer(0, 2, 0, 0), 0);
        Checks.same("its key", token.party(0, 10), 2);
    }

    private static Bench opened() {
        Bench token = new Bench();
        Wire.askPressed(token, Wire.make(4, "a", 5));
        token.open(0, 1);
        return token;
    }

    private static void refusesWrongCalls() {
        int[][] wrong = {{-1, 0}, {4, 0}, {0, -1}, {0, 6}, {0, Integer.MAX_VALUE}};
        for (int[] w : wrong) {
            Twins.keeps("party " + w[0] + ", what " + w[1], OfferTest::opened, IndexOutOfBoundsException.class,
                    t -> t.offer(w[0], 9, w[1], 0));
        }
        int[] numbers = {0, -1, 2, Integer.MAX_VALUE, Integer.MIN_VALUE};
        for (int number : numbers) {
            Twins.keeps("signature " + number, OfferTest::opened, NoSuchElementException.class,
                    t -> t.offer(1, number, 0, 0));
        }
        Twins.keeps("no challenge", OfferTest::opened, IllegalStateException.class, t -> t.offer(1, 1, 0, 0));
    }
}
