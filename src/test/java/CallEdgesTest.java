import java.util.NoSuchElementException;

/** Each sentence of Promises 1 to 15 at its boundaries, where no other test of edges has it. A comment quotes it. */
public final class CallEdgesTest {
    public static void main(String[] args) {
        aNewObject();
        pressWithAndWithoutPower();
        feedOfEachCount();
        feedUpToTheRoom();
        sendOfEachInput();
        outputsOfEachLength();
        outputThatIsLeft();
        powerOnAndOff();
        whatGoesWithThePower();
        cutOfEachCount();
        openOfEachParty();
        numbersOfChallenges();
        ceremonyWithEachTicket();
        ceremonyWithEachStatus();
        challengesOfEachWidth();
        offerInTheOrderOfItsThrows();
        fieldsOfSignatures();
        whatsOfParties();
        whatsOfLooks();
        Checks.end("CallEdgesTest");
    }

    private static final int LEAST = Integer.MIN_VALUE;
    private static final int GREATEST = Integer.MAX_VALUE;

    // "An erased store, power on, no parties' challenges or registrations, no cut."
    private static void aNewObject() {
        Bench token = new Bench();
        Checks.same("store", Wire.store(token), (Wire.BLANK + "|").repeat(7));
        Checks.same("parties", Wire.parties(token), "0 open 0|".repeat(4));
        Checks.same("power", token.look(0), 1);
        for (int what = 1; what <= 8; what++) {
            Checks.same("look " + what, token.look(what), 0);
        }
        Checks.same("output", token.waiting(), 0);
        Checks.raises("no signature", NoSuchElementException.class, () -> token.signature(1, 1));
        Checks.same("not pressed", Wire.ask(token, Wire.RESET), 7);
        Checks.same("no cut", Wire.askPressed(token, Wire.make(1, "a", 1)), 0);
        Bench another = new Bench();
        Checks.same("another is new as well", Wire.store(another), (Wire.BLANK + "|").repeat(7));
        Checks.same("its challenges", another.open(0, 1), 1);
    }

    // "Presses the token; false (refused) if it has no power."
    private static void pressWithAndWithoutPower() {
        Bench token = new Bench();
        Checks.same("with power", token.press(), true);
        Checks.same("again", token.press(), true);
        Checks.same("pressed", token.look(1), 1);
        token.power(false);
        Checks.same("without power", token.press(), false);
        Checks.same("not pressed", token.look(1), 0);
        token.power(true);
        Checks.same("not pressed when it comes", token.look(1), 0);
        Checks.same("with power again", token.press(), true);
        Checks.same("pressed", token.look(1), 1);
    }

    // "Puts the lowest n bytes of a number behind the input, the highest of them first"
    private static void feedOfEachCount() {
        byte[] request = Wire.bytes("01 a3 01 1a 12 34 56 78 02 68 31 7e 20 34 41 42 43 44 03 1a 7e dc ba 98");
        for (int n = 1; n <= 8; n++) {
            for (long beyond : new long[] {0, -1, 0x0102030405060708L}) {
                Bench token = new Bench();
                for (int at = 0; at < request.length; at += n) {
                    int count = Math.min(n, request.length - at);
                    long bytes = beyond;
                    for (int i = at; i < at + count; i++) {
                        bytes = bytes << 8 | request[i] & 255;
                    }
                    token.feed(bytes, count);
                    Checks.same("the input", token.look(6), at + count);
                }
                token.press();
                Checks.same("by " + n, token.send(), 0);
                Checks.same("challenge", token.signature(1, 4), 0x12345678);
                Checks.same("party", token.signature(1, 3), Wire.numberOfText("1~ 4ABCD"));
                Checks.same("user", token.cell(0, 2), 0x7edcba98);
            }
        }
    }

    // "IllegalArgumentException if n is not 1 .. 8 or there is no room" and "input and output (at most 48 and 80 bytes)"
    private static void feedUpToTheRoom() {
        for (int there = 0; there <= 48; there++) {
            for (int n = -1; n <= 10; n++) {
                Bench token = new Bench();
                Wire.feed(token, "04".repeat(there));
                boolean fits = n >= 1 && n <= 8 && there + n <= 48;
                int count = n;
                if (fits) {
                    token.feed(0, n);
                } else {
                    Checks.raises(n + " behind " + there, IllegalArgumentException.class, () -> token.feed(0, count));
                }
                Checks.same(n + " behind " + there, token.look(6), fits ? there + n : there);
            }
        }
        Bench token = new Bench();
        for (int round = 0; round < 3; round++) {
            Wire.feed(token, "04 a1 01 78 2b" + "41".repeat(43));
            Checks.same("48 bytes", token.look(6), 48);
            Checks.same("all of them", token.send(), 0);
            Checks.same("room again", token.look(6), 0);
        }
    }

    // "Does the request that is in the input (which is empty then; without a byte: 1)"
    private static void sendOfEachInput() {
        Bench token = new Bench();
        Checks.same("without a byte", token.send(), 1);
        Checks.same("its answer", Wire.answer(token), "01");
        Checks.same("again", token.send(), 1);
        Checks.same("one byte", Wire.ask(token, "04"), 0);
        Checks.same("the input is empty", token.look(6), 0);
        Checks.same("without a byte again", token.send(), 1);
        Checks.same("48 bytes", Wire.ask(token, "00".repeat(48)), 1);
        Checks.same("the input is empty", token.look(6), 0);
        Checks.same("malformed", Wire.ask(token, "04 ff"), 2);
        Checks.same("the input is empty", token.look(6), 0);
    }

    /** A token without a record, whose next key is of that number, so that answers can take more bytes. */
    private static Bench withKeys(int next) {
        Bench token = new Bench();
        for (int i = 1; i < next; i++) {
            token.cut(0);
            Wire.askPressed(token, Wire.make(1, "a", 1));
            token.power(true);
        }
        return token;
    }

    // "Takes the first bytes of the output, eight or as many as there are, as a number, the first one the highest."
    private static void outputsOfEachLength() {
        taken("1", new Bench(), "ff", "01");
        taken("2", new Bench(), Wire.setPin("1234"), "00 a0");
        taken("4", new Bench(), Wire.TRIES, "00 a1 01 08");
        taken("8", new Bench(), Wire.INFO, "00 a3 01 00 02 f4 03 07");
        taken("9", withKeys(24), Wire.make(1, "a", 1), "00 a3 01 01 02 18 18 03 01");
        Bench token = withKeys(24);
        Wire.askPressed(token, Wire.make(1, "a", 200));
        taken("16", token, Wire.sign("a", 1), "00 a6 01 01 02 18 18 03 02 04 01 05 01 06 18 c8");
        Bench longer = withKeys(24);
        Wire.askPressed(longer, Wire.make(1, "a", 0xff80));
        taken("17", longer, Wire.sign("a", 1), "00 a6 01 01 02 18 18 03 02 04 01 05 01 06 19 ff 80");
        Bench most = withKeys(24);
        Wire.askPressed(most, Wire.make(1, "a", 0x7fffffff));
        for (int i = 1; i < 24; i++) {
            Wire.askPressed(most, Wire.sign("a", 1));
        }
        taken("21", most, Wire.sign("a", 1), "00 a6 01 01 02 18 18 03 18 19 04 18 18 05 01 06 1a 7f ff ff ff");
    }

    private static void taken(String length, Bench token, String hex, String due) {
        Wire.askPressed(token, hex);
        String[] bytes = due.split(" ");
        Checks.same(length + " bytes", token.waiting(), Integer.parseInt(length));
        for (int at = 0; at < bytes.length; at += 8) {
            long number = 0;
            for (int i = at; i < Math.min(at + 8, bytes.length); i++) {
                number = number * 256 + Integer.parseInt(bytes[i], 16);
            }
            Checks.same(length + " bytes, from " + at, token.take(), number);
            Checks.same("left", token.waiting(), Math.max(0, bytes.length - at - 8));
        }
        Checks.raises("none", NoSuchElementException.class, token::take);
        Checks.same("none", token.waiting(), 0);
    }

    // "what is left of the output is gone, the answer is there"
    private static void outputThatIsLeft() {
        for (int taken = 0; taken <= 2; taken++) {
            Bench token = new Bench();
            Wire.askPressed(token, Wire.make(1, "a", 65536));
            Wire.askPressed(token, Wire.sign("a", 1));
            for (int i = 0; i < taken; i++) {
                token.take();
            }
            Checks.same("left", token.waiting(), 18 - 8 * taken);
            token.feed(4, 1);
            Checks.same("feeding leaves it", token.waiting(), 18 - 8 * taken);
            token.send();
            Checks.same("the answer alone", Wire.answer(token), "00 a3 01 01 02 f4 03 06");
        }
    }

    // "Switches the power: true; false (refused) if it is so."
    private static void powerOnAndOff() {
        Bench token = new Bench();
        boolean[] on = {true, false, false, true, true, false, true};
        boolean[] due = {false, true, false, true, false, true, true};
        for (int i = 0; i < on.length; i++) {
            Checks.same("switch " + i, token.power(on[i]), due[i]);
            Checks.same("power", token.look(0), on[i] ? 1 : 0);
        }
    }

    // "Off: the token's input, output and the rest are gone, a cut that is set, too."
    private static void whatGoesWithThePower() {
        Bench token = new Bench();
        Wire.askPressed(token, Wire.make(1, "a", 1));
        Wire.askPressed(token, Wire.make(1, "a", 2));
        Wire.ask(token, Wire.setPin("1234"));
        Wire.ask(token, Wire.ticket("1234"));
        Wire.askPressed(token, Wire.signWith("a", 1, 1));
        token.press();
        token.feed(4, 3);
        int[] before = {1, 1, 0, 1, 1, token.look(5), 3, 2, 3};
        int[] after = {0, 0, 0, 0, 0, token.look(5), 0, 2, 3};
        for (int what = 0; what <= 8; what++) {
            Checks.same("before, look " + what, token.look(what), before[what]);
        }
        Checks.same("before, output", token.waiting() > 0, true);
        token.power(false);
        for (int what = 0; what <= 8; what++) {
            Checks.same("after, look " + what, token.look(what), after[what]);
        }
        Checks.same("after, output", token.waiting(), 0);
        token.power(true);
        Checks.same("the input was empty", token.send(), 1);
        Checks.same("NEXT has none", Wire.ask(token, Wire.NEXT), 5);
        Checks.same("not pressed", Wire.ask(token, Wire.RESET), 7);
        Checks.same("no ticket", Wire.ask(token, Wire.signWith("a", 1, 1)), 14);

        Bench wrong = new Bench();
        Wire.ask(wrong, Wire.setPin("1234"));
        Wire.ask(wrong, Wire.ticket("0000"));
        Checks.same("WRONG", wrong.look(2), 1);
        wrong.power(false);
        Checks.same("WRONG is gone", wrong.look(2), 0);
    }

    // "true; false (refused) if k is less than 0 or there is no power"
    private static void cutOfEachCount() {
        int[] counts = {LEAST, -2, -1, 0, 1, 2, GREATEST - 1, GREATEST};
        Bench token = new Bench();
        for (int k : counts) {
            Checks.same("cut " + k, token.cut(k), k >= 0);
        }
        token.power(false);
        for (int k : counts) {
            Checks.same("cut " + k + " without power", token.cut(k), false);
        }
    }

    // "Throws IndexOutOfBoundsException if there is no such party or user."
    private static void openOfEachParty() {
        int[] parties = {LEAST, -1, 0, 1, 2, 3, 4, GREATEST};
        int[] users = {LEAST, -1, 0, 1, 98, 99, 100, GREATEST};
        for (int party : parties) {
            for (int user : users) {
                Bench token = new Bench();
                boolean there = party >= 0 && party <= 3 && user >= 0 && user <= 99;
                if (there) {
                    Checks.same("open " + party + ", " + user, token.open(party, user), 1);
                    Checks.same("it is open", token.party(party, 1), 1);
                } else {
                    Checks.raises("open " + party + ", " + user, IndexOutOfBoundsException.class, () -> token.open(party, user));
                }
            }
        }
    }

    private static void numbersOfChallenges() {
        Bench token = new Bench();
        for (int number = 1; number <= 60; number++) {
            int party = number % 4;
            Checks.same("challenge " + number, token.open(party, number % 100), number);
            Checks.same("it is open", token.party(party, 1), number);
            if (number % 7 == 0) {
                token.power(number % 2 == 0);
            }
            Checks.raises("no user", IndexOutOfBoundsException.class, () -> token.open(party, 100));
        }
    }

    // "both with a ticket if it is greater than 0"
    private static void ceremonyWithEachTicket() {
        int[] tickets = {LEAST, -1, 0, 1, 2, 3, 23, 24, 255, 256, 65535, 65536, GREATEST};
        for (int ticket : tickets) {
            Bench bare = new Bench();
            bare.open(0, 1);
            bare.press();
            Checks.same("MAKE without a PIN, ticket " + ticket, bare.ceremony(0, 0, true, ticket), 0);
            Checks.same("not VERIFIED", bare.signature(1, 6), 0);
            bare.open(0, 1);
            bare.press();
            Checks.same("ASSERT, ticket " + ticket, bare.ceremony(0, 0, false, ticket), ticket > 0 ? 114 : 0);
            Bench guarded = new Bench();
            Wire.askPressed(guarded, Wire.make(1, "a", 1));
            Wire.ask(guarded, Wire.setPin("1234"));
            Wire.ask(guarded, Wire.ticket("1234"));
            Wire.ask(guarded, Wire.ticket("1234"));
            guarded.open(0, 2);
            guarded.press();
            Checks.same("ASSERT with a PIN, ticket " + ticket, guarded.ceremony(0, 0, false, ticket),
                    ticket == 2 || ticket <= 0 ? 8 : 114);
            Checks.same("VERIFIED", guarded.look(8) == 2 ? guarded.signature(2, 6) : -1, ticket == 2 ? 1 : ticket <= 0 ? 0 : -1);
            guarded.press();
            Checks.same("MAKE with a PIN, ticket " + ticket, guarded.ceremony(0, 0, true, ticket), ticket == 2 ? 0 : 114);
        }
    }

    // "Answers the verdict; 100 + the status if that is not 0, 99 if the power went."
    private static void ceremonyWithEachStatus() {
        Bench token = new Bench();
        token.open(0, 1);
        Checks.same("no credentials", token.ceremony(0, 0, false, 0), 109);
        Checks.same("not pressed", token.ceremony(0, 0, true, 0), 107);
        Checks.same("a ticket", token.ceremony(0, 0, false, 1), 114);
        token.cut(5);
        token.press();
        Checks.same("the power went", token.ceremony(0, 0, true, 0), 99);
        token.power(true);
        token.cut(6);
        token.press();
        Checks.same("the power stays", token.ceremony(0, 0, true, 0), 0);
        for (int user = 2; user <= 6; user++) {
            Wire.askPressed(token, Wire.make(1, "a", user));
        }
        token.open(0, 6);
        token.press();
        Checks.same("not full for this user", token.ceremony(0, 0, true, 0), 0);
        token.open(0, 7);
        token.press();
        Checks.same("full for the next", token.ceremony(0, 0, true, 0), 106);
        token.press();
        Checks.same("ASSERT goes on", token.ceremony(0, 0, false, 0), 0);
        Checks.same("LAST", token.party(0, 31), 1);
    }

    private static void challengesOfEachWidth() {
        for (int origin = 0; origin <= 3; origin += 3) {
            Bench token = new Bench();
            for (int c = 1; c <= 66; c++) {
                token.open(origin, 24);
                token.press();
                Checks.same("challenge " + c + " at " + origin, token.ceremony(origin, origin, c % 40 == 1, 0), 0);
                Checks.same("bound", token.signature(c, 4), 4 * c + origin);
            }
        }
    }

    private static void offerInTheOrderOfItsThrows() {
        int[] parties = {LEAST, -1, 0, 1, 3, 4, GREATEST};
        int[] numbers = {LEAST, -1, 0, 1, 2, GREATEST};
        int[] whats = {LEAST, -1, 0, 1, 5, 6, GREATEST};
        for (int party : parties) {
            for (int number : numbers) {
                for (int what : whats) {
                    Bench token = new Bench();
                    Wire.askPressed(token, Wire.make(5, "b", 1));
                    token.open(1, 1);
                    boolean index = party >= 0 && party <= 3 && what >= 0 && what <= 5;
                    Object due = !index ? IndexOutOfBoundsException.class : number != 1 ? NoSuchElementException.class
                            : party != 1 ? IllegalStateException.class : what == 0 ? 0 : 6;
                    Checks.same("offer " + party + ", " + number + ", " + what,
                            Twins.outcome(token, t -> t.offer(party, number, what, 1)), due);
                }
            }
        }
    }

    // "A field of a signature: 1 to 5 as above, 6 VERIFIED. Throws NoSuchElementException if there is no such signature or
    // field"
    private static void fieldsOfSignatures() {
        Bench token = new Bench();
        Wire.askPressed(token, Wire.make(9, "b", 5));
        Wire.askPressed(token, Wire.sign("b", 10));
        int[][] fields = {{1, 1, 753, 9, 0, 0}, {2, 1, 753, 10, 1, 0}};
        for (int number : new int[] {LEAST, -1, 0, 1, 2, 3, GREATEST}) {
            for (int what : new int[] {LEAST, -1, 0, 1, 2, 3, 4, 5, 6, 7, GREATEST}) {
                boolean there = (number == 1 || number == 2) && what >= 1 && what <= 6;
                Object due = there ? fields[number - 1][what - 1] : NoSuchElementException.class;
                Checks.same("field " + what + " of " + number, Twins.outcome(token, t -> t.signature(number, what)), due);
            }
        }
    }

    // "-1 if there is no such party, what or registration"
    private static void whatsOfParties() {
        Bench token = new Bench();
        for (int i = 0; i < 3; i++) {
            token.open(1, 60 + i);
            token.press();
            token.ceremony(1, 1, true, 0);
        }
        token.open(1, 9);
        for (int what = -31; what <= 101; what++) {
            int k = what % 10;
            boolean there = what >= 10 && what < 40 && k < 3;
            int due = what == 0 ? 3 : what == 1 ? 4 : !there ? -1 : what < 20 ? k + 1 : what < 30 ? 60 + k : 0;
            Checks.same("party 1, what " + what, token.party(1, what), due);
        }
        for (int what : new int[] {LEAST, LEAST + 8, GREATEST, GREATEST - 7, 1000, 1010}) {
            Checks.same("party 1, what " + what, token.party(1, what), -1);
        }
        for (int party : new int[] {LEAST, -1, 4, 5, GREATEST}) {
            for (int what : new int[] {-1, 0, 1, 10, 20, 30}) {
                Checks.same("party " + party + ", what " + what, token.party(party, what), -1);
            }
        }
        for (int party : new int[] {0, 2, 3}) {
            for (int what : new int[] {-1, 0, 1, 2, 10, 20, 30}) {
                Checks.same("party " + party + ", what " + what, token.party(party, what), what == 0 || what == 1 ? 0 : -1);
            }
        }
    }

    // "-1 for another what"
    private static void whatsOfLooks() {
        Bench token = new Bench();
        for (int what = -20; what <= 40; what++) {
            Checks.same("look " + what, token.look(what), what == 0 ? 1 : what >= 1 && what <= 8 ? 0 : -1);
        }
        for (int what : new int[] {LEAST, GREATEST, 256, 1 << 30}) {
            Checks.same("look " + what, token.look(what), -1);
        }
    }
}
