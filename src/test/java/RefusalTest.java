import java.util.NoSuchElementException;

/**
 * "A call that is refused or throws changes nothing, where nothing else is said." Each such call is made in several
 * states, beside a twin that does not get it.
 */
public final class RefusalTest {
    private static final Class<?> NO_STATE = IllegalStateException.class;
    private static final Class<?> NO_ARGUMENT = IllegalArgumentException.class;
    private static final Class<?> NO_INDEX = IndexOutOfBoundsException.class;
    private static final Class<?> NO_ELEMENT = NoSuchElementException.class;
    private static final int LEAST = Integer.MIN_VALUE;
    private static final int GREATEST = Integer.MAX_VALUE;

    public static void main(String[] args) {
        Twins.Setup[] withPower = {Bench::new, RefusalTest::inUse, RefusalTest::withoutInput, RefusalTest::withACut,
            RefusalTest::withOutput};
        Twins.Setup[] withoutPower = {RefusalTest::switchedOff, RefusalTest::torn, RefusalTest::twoOfOneName};
        for (Twins.Setup setup : withPower) {
            withPower(setup);
            inAnyState(setup);
        }
        for (Twins.Setup setup : withoutPower) {
            withoutPower(setup);
            inAnyState(setup);
        }
        withoutRoom();
        withoutOutput();
        withoutAChallenge();
        Checks.end("RefusalTest");
    }

    /** A PIN, a ticket, two credentials, a WRONG PIN, a registration, an open challenge. */
    private static Bench used() {
        Bench token = new Bench();
        token.open(0, 41);
        token.press();
        token.ceremony(0, 0, true, 0);
        Wire.askPressed(token, Wire.make(9, "a", 42));
        Wire.askPressed(token, Wire.make(9, "b", 43));
        Wire.ask(token, Wire.setPin("1234"));
        Wire.ask(token, Wire.ticket("0000"));
        token.open(0, 51);
        return token;
    }

    private static Bench withoutInput() {
        Bench token = used();
        Wire.ask(token, Wire.ticket("1234"));
        Wire.askPressed(token, Wire.signWith("a", 77, 1));
        token.press();
        return token;
    }

    private static Bench inUse() {
        Bench token = withoutInput();
        token.take();
        Wire.feed(token, "04 a1 01");
        return token;
    }

    private static Bench withACut() {
        Bench token = withoutInput();
        token.cut(3);
        return token;
    }

    private static Bench withOutput() {
        Bench token = used();
        token.press();
        Wire.ask(token, Wire.INFO);
        return token;
    }

    private static Bench switchedOff() {
        Bench token = withACut();
        token.power(false);
        return token;
    }

    private static Bench torn() {
        Bench token = withACut();
        Wire.askPressed(token, Wire.makeWith(1, "a", 1, 1));
        return token;
    }

    private static Bench twoOfOneName() {
        Bench token = withoutInput();
        token.cut(6);
        Wire.ask(token, Wire.NEXT);
        return token;
    }

    private static Object feed(Bench token, int n) {
        token.feed(0x0404040404040404L, n);
        return "fed";
    }

    private static void withPower(Twins.Setup setup) {
        Twins.keeps("power(true)", setup, false, t -> t.power(true));
        for (int k : new int[] {-1, -2, LEAST}) {
            Twins.keeps("cut(" + k + ")", setup, false, t -> t.cut(k));
        }
        for (int n : new int[] {0, -1, 9, 10, LEAST, GREATEST}) {
            Twins.keeps("feed(.., " + n + ")", setup, NO_ARGUMENT, t -> feed(t, n));
        }
    }

    private static void withoutPower(Twins.Setup setup) {
        Twins.keeps("without power", setup, 0, t -> t.look(0));
        Twins.keeps("press()", setup, false, Bench::press);
        Twins.keeps("power(false)", setup, false, t -> t.power(false));
        Twins.keeps("send()", setup, NO_STATE, Bench::send);
        Twins.keeps("take()", setup, NO_ELEMENT, Bench::take);
        for (int k : new int[] {LEAST, -1, 0, 1, 6, GREATEST}) {
            Twins.keeps("cut(" + k + ")", setup, false, t -> t.cut(k));
        }
        for (int n : new int[] {LEAST, -1, 0, 1, 8, 9, GREATEST}) {
            Twins.keeps("feed(.., " + n + ")", setup, NO_STATE, t -> feed(t, n));
        }
        Twins.keeps("ceremony", setup, NO_STATE, t -> t.ceremony(0, 0, true, 0));
        Twins.keeps("ceremony without a challenge", setup, NO_STATE, t -> t.ceremony(1, 1, false, 1));
    }

    private static void inAnyState(Twins.Setup setup) {
        for (int party : new int[] {-1, 4, LEAST, GREATEST}) {
            Twins.keeps("open at " + party, setup, NO_INDEX, t -> t.open(party, 1));
            Twins.keeps("open at " + party + " for 100", setup, NO_INDEX, t -> t.open(party, 100));
            Twins.keeps("ceremony of " + party, setup, NO_INDEX, t -> t.ceremony(party, 0, true, 1));
            Twins.keeps("ceremony at " + party, setup, NO_INDEX, t -> t.ceremony(0, party, false, 1));
            Twins.keeps("ceremony at " + party + " without a challenge", setup, NO_INDEX, t -> t.ceremony(1, party, true, 0));
            Twins.keeps("offer to " + party, setup, NO_INDEX, t -> t.offer(party, 1, 0, 0));
            Twins.keeps("offer of none to " + party, setup, NO_INDEX, t -> t.offer(party, 0, 6, 1));
            Twins.keeps("party " + party, setup, -1, t -> t.party(party, 0));
        }
        for (int user : new int[] {-1, 100, LEAST, GREATEST}) {
            Twins.keeps("open for " + user, setup, NO_INDEX, t -> t.open(0, user));
        }
        for (int what : new int[] {-1, 6, 7, LEAST, GREATEST}) {
            Twins.keeps("offer, field " + what, setup, NO_INDEX, t -> t.offer(0, 1, what, 1));
            Twins.keeps("offer of none, field " + what, setup, NO_INDEX, t -> t.offer(1, 0, what, 1));
        }
        for (int number : new int[] {-1, 0, 9, 41, LEAST, GREATEST}) {
            Twins.keeps("offer of " + number, setup, NO_ELEMENT, t -> t.offer(0, number, 0, 0));
            Twins.keeps("offer of " + number + " without a challenge", setup, NO_ELEMENT, t -> t.offer(1, number, 5, 1));
            Twins.keeps("signature " + number, setup, NO_ELEMENT, t -> t.signature(number, 1));
        }
        for (int what : new int[] {-1, 0, 7, LEAST, GREATEST}) {
            Twins.keeps("field " + what, setup, NO_ELEMENT, t -> t.signature(1, what));
        }
        for (int what : new int[] {-1, 9, 10, LEAST, GREATEST}) {
            Twins.keeps("look " + what, setup, -1, t -> t.look(what));
        }
        for (int what : new int[] {-1, 2, 9, 11, 16, 21, 26, 31, 36, 40, LEAST, GREATEST}) {
            Twins.keeps("party's " + what, setup, -1, t -> t.party(0, what));
        }
        for (int[] cell : new int[][] {{-1, 0}, {7, 0}, {0, -1}, {0, 6}, {LEAST, 0}, {0, GREATEST}}) {
            Twins.keeps("cell " + cell[0] + ", " + cell[1], setup, 0, t -> t.cell(cell[0], cell[1]));
        }
    }

    private static Bench fed(int bytes) {
        Bench token = withoutInput();
        Wire.feed(token, "04".repeat(bytes));
        return token;
    }

    private static void withoutRoom() {
        for (int n = 1; n <= 8; n++) {
            int count = n;
            for (int bytes = 49 - n; bytes <= 48; bytes++) {
                int fed = bytes;
                Twins.keeps("feed(.., " + n + ") behind " + bytes, () -> fed(fed), NO_ARGUMENT, t -> feed(t, count));
            }
        }
    }

    private static Bench drained() {
        Bench token = inUse();
        Wire.answer(token);
        return token;
    }

    private static void withoutOutput() {
        Twins.keeps("take() from a new one", Bench::new, NO_ELEMENT, Bench::take);
        Twins.keeps("take() behind the last byte", RefusalTest::drained, NO_ELEMENT, Bench::take);
    }

    private static void withoutAChallenge() {
        Twins.Setup[] setups = {RefusalTest::inUse, RefusalTest::withACut, RefusalTest::withOutput};
        for (Twins.Setup setup : setups) {
            for (int party = 1; party <= 3; party++) {
                int p = party;
                Twins.keeps("ceremony of " + p, setup, NO_STATE, t -> t.ceremony(p, p, true, 1));
                Twins.keeps("ceremony of " + p + ", ASSERT", setup, NO_STATE, t -> t.ceremony(p, 0, false, 0));
                Twins.keeps("offer to " + p, setup, NO_STATE, t -> t.offer(p, 1, 0, 0));
                Twins.keeps("offer to " + p + ", altered", setup, NO_STATE, t -> t.offer(p, 1, 4, 1));
            }
        }
    }
}
