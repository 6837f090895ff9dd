/** Promise 10. */
public final class CeremonyTest {
    public static void main(String[] args) {
        registersAndAsserts();
        bindsTheOrigin();
        carriesTickets();
        emptiesInputAndOutput();
        emptiesAFullInput();
        excludesNothing();
        asksWithoutAList();
        tellsStatusAndPower();
        leavesNextToGoThrough();
        refusesWrongCalls();
        Checks.end("CeremonyTest");
    }

    private static int pressed(Bench token, int party, int origin, boolean registers, int ticket) {
        token.press();
        return token.ceremony(party, origin, registers, ticket);
    }

    private static void registersAndAsserts() {
        Bench token = new Bench();
        for (int party = 0; party < 4; party++) {
            token.open(party, 10 + party);
            Checks.same("register " + party, pressed(token, party, party, true, 0), 0);
            Checks.same("closed", token.party(party, 1), 0);
            Checks.same("key", token.party(party, 10), party + 1);
            Checks.same("user", token.party(party, 20), 10 + party);
            Checks.same("last", token.party(party, 30), 0);
            Checks.same("its party's text", token.signature(party + 1, 3), 752 + party);
            Checks.same("its challenge", token.signature(party + 1, 4), 4 * (party + 1) + party);
        }
        Checks.same("the record's user", token.cell(2, 2), 12);
        for (int round = 1; round < 4; round++) {
            token.open(2, 50);
            Checks.same("assert", pressed(token, 2, 2, false, 0), 0);
            Checks.same("last", token.party(2, 30), round);
            Checks.same("the user stays", token.party(2, 20), 12);
        }
    }

    private static void bindsTheOrigin() {
        Bench token = new Bench();
        token.open(0, 1);
        Checks.same("at another origin", pressed(token, 0, 1, true, 0), 2);
        Checks.same("the token was asked under its text", token.signature(1, 3), 753);
        Checks.same("with its challenge", token.signature(1, 4), 5);
        Checks.same("still open", token.party(0, 1), 1);
        Checks.same("nothing is registered", token.party(0, 0), 0);
        Checks.same("no credential at the right one", pressed(token, 0, 0, false, 0), 109);
        Checks.same("the credential of the other", pressed(token, 0, 1, false, 0), 2);
    }

    private static void carriesTickets() {
        Bench token = new Bench();
        token.open(0, 1);
        Checks.same("MAKE passes a ticket over", pressed(token, 0, 0, true, 5), 0);
        token.open(0, 1);
        Checks.same("ASSERT does not", pressed(token, 0, 0, false, 5), 114);
        Wire.ask(token, Wire.setPin("1234"));
        Wire.ask(token, Wire.ticket("1234"));
        Checks.same("none", pressed(token, 0, 0, true, 0), 114);
        Checks.same("below 0 is none", pressed(token, 0, 0, true, -1), 114);
        Checks.same("a wrong one", pressed(token, 0, 0, true, 2), 114);
        Checks.same("a great one", pressed(token, 0, 0, false, Integer.MAX_VALUE), 114);
        Checks.same("none for ASSERT", pressed(token, 0, 0, false, 0), 0);
        Checks.same("not verified", token.signature(2, 6), 0);
        token.open(0, 1);
        Checks.same("the ticket", pressed(token, 0, 0, false, 1), 0);
        Checks.same("verified", token.signature(3, 6), 1);
        token.open(0, 1);
        Checks.same("the ticket for MAKE", pressed(token, 0, 0, true, 1), 0);
        Checks.same("verified", token.signature(4, 6), 1);
        Checks.same("a new key of the same user", token.party(0, 11), 2);
    }

    private static void emptiesInputAndOutput() {
        Bench token = new Bench();
        Wire.ask(token, Wire.INFO);
        token.feed(4, 1);
        token.open(0, 1);
        Checks.same("register", pressed(token, 0, 0, true, 0), 0);
        Checks.same("input", token.look(6), 0);
        Checks.same("output", token.waiting(), 0);
        Wire.ask(token, Wire.INFO);
        token.feed(4, 1);
        token.open(0, 1);
        Checks.same("not pressed", token.ceremony(0, 0, true, 0), 107);
        Checks.same("input", token.look(6), 0);
        Checks.same("output", token.waiting(), 0);
        Wire.ask(token, Wire.INFO);
        token.feed(4, 1);
        Checks.same("assert", pressed(token, 0, 0, false, 0), 0);
        Checks.same("input", token.look(6), 0);
        Checks.same("output", token.waiting(), 0);
    }

    // "What is in the input and the output is gone before": the request is the client's alone, and there is room for it.
    private static void emptiesAFullInput() {
        for (int bytes = 0; bytes <= 48; bytes += 8) {
            for (boolean registers : new boolean[] {true, false}) {
                Bench token = new Bench();
                Wire.askPressed(token, Wire.make(4, "a", 1));
                token.open(0, 1);
                token.offer(0, 1, 0, 0);
                token.open(0, 99);
                Wire.ask(token, Wire.INFO);
                Wire.feed(token, "07".repeat(bytes));
                Checks.same("behind " + bytes, pressed(token, 0, 0, registers, Integer.MAX_VALUE), registers ? 0 : 114);
                Checks.same("input", token.look(6), 0);
                Checks.same("output", token.waiting(), 0);
                Checks.same("as it was asked", registers ? token.signature(2, 4) : 8, 8);
                Checks.same("no RESET", token.cell(0, 0), 17);
            }
        }
    }

    // "MAKE (registers) for the open challenge's user, excluding nothing"
    private static void excludesNothing() {
        for (int user = 1; user <= 7; user++) {
            Bench token = new Bench();
            for (int other = 1; other <= 6; other++) {
                Wire.askPressed(token, Wire.make(1, "a", other));
            }
            token.open(0, user);
            Checks.same("six of the party, user " + user, pressed(token, 0, 0, true, 0), user <= 6 ? 0 : 106);
            Checks.same("the user's is replaced", token.cell(6, 0), user <= 6 ? user + 16 * 7 : -1);
        }
    }

    // "or ASSERT, without a list"
    private static void asksWithoutAList() {
        for (int count = 1; count <= 6; count++) {
            Bench token = new Bench();
            for (int user = 1; user <= count; user++) {
                token.open(0, user);
                pressed(token, 0, 0, true, 0);
            }
            token.open(0, 1);
            Checks.same("assert", pressed(token, 0, 0, false, 0), 0);
            Checks.same("the latest one's key", token.signature(count + 1, 2), count);
            Checks.same("all the others are left", token.look(4), count - 1);
        }
    }

    private static void tellsStatusAndPower() {
        Bench token = new Bench();
        token.open(0, 1);
        Checks.same("no credentials", pressed(token, 0, 0, false, 0), 109);
        token.cut(4);
        Checks.same("cut", token.ceremony(0, 0, true, 0), 99);
        Checks.same("no power", token.look(0), 0);
        Checks.same("still open", token.party(0, 1), 1);
        token.power(true);
        for (int user = 0; user < 6; user++) {
            Wire.askPressed(token, Wire.make(1, "x", user));
        }
        Checks.same("full", pressed(token, 0, 0, true, 0), 106);
    }

    private static void leavesNextToGoThrough() {
        Bench token = new Bench();
        for (int user = 1; user < 4; user++) {
            token.open(0, user);
            pressed(token, 0, 0, true, 0);
        }
        token.open(0, 1);
        Checks.same("the latest", pressed(token, 0, 0, false, 0), 0);
        Checks.same("its key", token.signature(4, 2), 3);
        Checks.same("NEXT has two", token.look(4), 2);
        Checks.same("NEXT", Wire.ask(token, Wire.NEXT), 0);
        Checks.same("its key", token.signature(5, 2), 2);
        Checks.same("the client's challenge", token.signature(5, 4), 16);
        token.open(0, 1);
        Checks.same("not pressed", token.ceremony(0, 0, true, 0), 107);
        Checks.same("it is a request, too", token.look(4), 0);
    }

    private static Bench opened() {
        Bench token = new Bench();
        token.open(0, 1);
        token.press();
        token.feed(4, 1);
        return token;
    }

    private static Bench openedWithoutPower() {
        Bench token = opened();
        token.power(false);
        return token;
    }

    private static void refusesWrongCalls() {
        int[][] wrong = {{-1, 0}, {4, 0}, {0, -1}, {0, 4}, {Integer.MAX_VALUE, Integer.MIN_VALUE}};
        for (int[] w : wrong) {
            Twins.keeps("party " + w[0] + ", origin " + w[1], CeremonyTest::opened, IndexOutOfBoundsException.class,
                    t -> t.ceremony(w[0], w[1], true, 0));
        }
        Twins.keeps("no open challenge", CeremonyTest::opened, IllegalStateException.class,
                t -> t.ceremony(1, 0, true, 0));
        Twins.keeps("first the index", CeremonyTest::opened, IndexOutOfBoundsException.class,
                t -> t.ceremony(1, 4, true, 0));
        Twins.keeps("no power", CeremonyTest::openedWithoutPower, IllegalStateException.class,
                t -> t.ceremony(0, 0, true, 0));
        Twins.keeps("the index is still first", CeremonyTest::openedWithoutPower, IndexOutOfBoundsException.class,
                t -> t.ceremony(4, 0, true, 0));
    }
}
