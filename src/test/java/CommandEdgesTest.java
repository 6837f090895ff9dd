/** Each sentence of THE TOKEN and of COMMANDS at its boundaries. A comment before a test quotes the sentence. */
public final class CommandEdgesTest {
    private static final String LETTERS = "abcdefghijklm";
    private static final String DIGITS = "1234567890123";

    public static void main(String[] args) {
        partyTextsOfMake();
        partyTextsOfAssert();
        excludedNames();
        excludedInLongLists();
        allowedNames();
        allowedInLongLists();
        listsHoldNamesNotKeys();
        ticketsOfMake();
        ticketsOfAssert();
        presses();
        replacedCredentials();
        leastNames();
        howManyCredentials();
        nextGoesThroughTheOthers();
        nextIsLeftNothing();
        latestSerialFirst();
        pinsOfEachLength();
        oldPinsOfEachLength();
        Checks.end("CommandEdgesTest");
    }

    private static Bench credentials(int count) {
        Bench token = new Bench();
        for (int user = 1; user <= count; user++) {
            Wire.askPressed(token, Wire.make(1, "a", user));
        }
        return token;
    }

    private static Bench withTickets(int tickets) {
        Bench token = new Bench();
        Wire.askPressed(token, Wire.make(1, "a", 1));
        Wire.ask(token, Wire.setPin("1234"));
        for (int i = 0; i < tickets; i++) {
            Wire.ask(token, Wire.ticket("1234"));
        }
        return token;
    }

    // "the party's text has 1 to 8 characters, else 5"
    private static void partyTextsOfMake() {
        for (int length = 0; length <= 12; length++) {
            String text = LETTERS.substring(0, length);
            boolean fits = length >= 1 && length <= 8;
            Bench token = new Bench();
            Checks.same("MAKE with " + length + " characters", Wire.askPressed(token, Wire.make(1, text, 1)), fits ? 0 : 5);
            Checks.same("writes", token.look(5), fits ? 6 : 0);
            Checks.same("its number", token.cell(0, 1), fits ? Wire.numberOfText(text) : -1);
            Checks.same("the press", token.look(1), fits ? 0 : 1);
        }
        String longest = "01 a3 01 05 02 78 27" + "78".repeat(39) + "03 05";
        Checks.same("39 characters", Wire.askPressed(new Bench(), longest), 5);
    }

    // "5 for the text as with 1"
    private static void partyTextsOfAssert() {
        for (int length = 0; length <= 12; length++) {
            String text = LETTERS.substring(0, length);
            boolean fits = length >= 1 && length <= 8;
            Bench token = new Bench();
            Wire.askPressed(token, Wire.make(1, fits ? text : "a", 1));
            Checks.same("ASSERT with " + length + " characters", Wire.askPressed(token, Wire.sign(text, 1)), fits ? 0 : 5);
            Checks.same("writes", token.look(5), fits ? 13 : 6);
            Checks.same("the press", token.look(1), fits ? 0 : 1);
            Checks.same("none of another", Wire.askPressed(token, Wire.sign(fits ? text + "z" : "b", 1)), length == 8 ? 5 : 9);
        }
    }

    private static final int[] NO_NAMES = {0, 7, 8, 15, 16, 17, 22, 23, 24, 31, 32, 33, 38, 64, 65, 70, 255, 256, 257, 262,
        65536, 65537, 2147483646, 2147483647};

    // "one of the excluded is a credential with that party: 8"
    private static void excludedNames() {
        for (int count = 0; count <= 6; count++) {
            for (int name = 0; name <= 7; name++) {
                int due = name >= 1 && name <= count ? 8 : count == 6 ? 6 : 0;
                Bench token = credentials(count);
                Checks.same("name " + name + " of " + count, Wire.askPressed(token, Wire.makeExcluding(1, "a", 9, name)), due);
                Checks.same("the press", token.look(1), due == 8 ? 1 : 0);
                Bench other = credentials(count);
                int full = count == 6 ? 6 : 0;
                Checks.same("another party", Wire.askPressed(other, Wire.makeExcluding(1, "b", 9, name)), full);
            }
        }
        for (int name : NO_NAMES) {
            Bench token = credentials(6);
            Checks.same("no name " + name, Wire.askPressed(token, Wire.makeExcluding(1, "a", 6, name)), 0);
        }
        Checks.same("none", Wire.askPressed(credentials(6), Wire.makeExcluding(1, "a", 6)), 0);
        Checks.same("itself", Wire.askPressed(credentials(6), Wire.makeExcluding(1, "a", 6, 6)), 8);
    }

    private static void excludedInLongLists() {
        for (int length : new int[] {1, 2, 6, 7, 23, 24, 25, 31}) {
            for (int at = 0; at < length; at += Math.max(1, length - 1)) {
                String list = listWith(length, at, 6);
                String request = "01 a4 01 05 02 61 61 03 09 05" + list;
                Checks.same("6 is excluded at " + at + " of " + length, Wire.askPressed(credentials(6), request), 8);
            }
            String request = "01 a4 01 05 02 61 61 03 06 05" + listWith(length, -1, 6);
            Checks.same("not among " + length, Wire.askPressed(credentials(6), request), 0);
        }
    }

    private static String listWith(int length, int at, int name) {
        StringBuilder hex = new StringBuilder(length < 24 ? String.format("%02x", 0x80 + length) : String.format("98%02x", length));
        for (int i = 0; i < length; i++) {
            hex.append(i == at ? String.format("%02x", name) : "07");
        }
        return hex.toString();
    }

    // "and with a name in the list, if there is one .. none: 9"
    private static void allowedNames() {
        for (int count = 1; count <= 6; count++) {
            for (int name = 0; name <= 7; name++) {
                Bench token = credentials(count);
                boolean there = name >= 1 && name <= count;
                Checks.same("name " + name + " of " + count, Wire.askPressed(token, Wire.signAllowed("a", 1, name)), there ? 0 : 9);
                Checks.same("the press", token.look(1), there ? 0 : 1);
                if (there) {
                    Checks.same("its key", token.signature(count + 1, 2), name);
                    Checks.same("no other", token.look(4), 0);
                }
                Checks.same("another party's", Wire.askPressed(token, Wire.signAllowed("b", 1, name)), 9);
            }
        }
        for (int name : NO_NAMES) {
            Checks.same("no name " + name, Wire.askPressed(credentials(6), Wire.signAllowed("a", 1, name)), 9);
        }
        Checks.same("an empty list", Wire.askPressed(credentials(6), Wire.signAllowed("a", 1)), 9);
        Bench token = credentials(6);
        Checks.same("all and others, each twice",
                Wire.askPressed(token, Wire.signAllowed("a", 1, 0, 1, 2, 3, 4, 5, 6, 7, 7, 6, 5, 4, 3, 2, 1, 0)), 0);
        Checks.same("six", Wire.answer(token), "00 a6 01 06 02 06 03 07 04 01 05 06 06 06");
    }

    private static void allowedInLongLists() {
        for (int length : new int[] {1, 2, 6, 7, 23, 24, 25, 35}) {
            for (int at = 0; at < length; at += Math.max(1, length - 1)) {
                Bench token = credentials(6);
                Checks.same("6 is allowed at " + at + " of " + length,
                        Wire.askPressed(token, "02 a3 01 61 61 02 05 03" + listWith(length, at, 6)), 0);
                Checks.same("its key", token.signature(7, 2), 6);
            }
            Checks.same("not among " + length,
                    Wire.askPressed(credentials(6), "02 a3 01 61 61 02 05 03" + listWith(length, -1, 6)), 9);
        }
    }

    /** Three credentials whose keys are 4, 5 and 6, and whose users are 7, 8 and 9. */
    private static Bench withOtherKeys() {
        Bench token = new Bench();
        for (int i = 0; i < 3; i++) {
            token.cut(0);
            Wire.askPressed(token, Wire.make(1, "a", 7));
            token.power(true);
        }
        for (int user = 7; user <= 9; user++) {
            Wire.askPressed(token, Wire.make(1, "a", user));
        }
        return token;
    }

    private static void listsHoldNamesNotKeys() {
        for (int number = 0; number <= 10; number++) {
            boolean name = number >= 1 && number <= 3;
            Bench allowed = withOtherKeys();
            Checks.same("allowed " + number, Wire.askPressed(allowed, Wire.signAllowed("a", 1, number)), name ? 0 : 9);
            Checks.same("its answer", Wire.answer(allowed), !name ? "09"
                    : String.format("00 a6 01 %02x 02 %02x 03 04 04 01 05 01 06 %02x", number, number + 3, number + 6));
            Bench excluded = withOtherKeys();
            Checks.same("excluded " + number, Wire.askPressed(excluded, Wire.makeExcluding(1, "a", 1, number)), name ? 8 : 0);
        }
    }

    // "if there is a PIN record: 14, if 8 is not there or not the ticket or that is 0"
    private static void ticketsOfMake() {
        for (int tickets = 0; tickets <= 3; tickets++) {
            for (int given = 0; given <= 4; given++) {
                boolean right = given > 0 && given == tickets;
                Bench token = withTickets(tickets);
                Checks.same("ticket " + given + " of " + tickets, Wire.askPressed(token, Wire.makeWith(1, "b", 1, given)),
                        right ? 0 : 14);
                Checks.same("the press", token.look(1), right ? 0 : 1);
                Checks.same("VERIFIED", right ? token.signature(2, 6) : 1, 1);
            }
            Checks.same("none of " + tickets, Wire.askPressed(withTickets(tickets), Wire.make(1, "b", 1)), 14);
            Checks.same("the greatest", Wire.askPressed(withTickets(tickets), Wire.makeWith(1, "b", 1, 2147483647)), 14);
            Checks.same("256 more", Wire.askPressed(withTickets(tickets), Wire.makeWith(1, "b", 1, 256 + tickets)), 14);
        }
        for (int given : new int[] {0, 1, 2147483647}) {
            Bench token = new Bench();
            Checks.same("without a PIN, " + given, Wire.askPressed(token, Wire.makeWith(1, "b", 1, given)), 0);
            Checks.same("not VERIFIED", token.signature(1, 6), 0);
        }
        Bench reset = withTickets(2);
        Wire.askPressed(reset, Wire.RESET);
        Wire.ask(reset, Wire.setPin("1234"));
        Checks.same("0 after a RESET", Wire.askPressed(reset, Wire.makeWith(1, "b", 1, 0)), 14);
        Checks.same("the one before it", Wire.askPressed(reset, Wire.makeWith(1, "b", 1, 2)), 14);
    }

    // "6 is there and is not the ticket or that is 0: 14"
    private static void ticketsOfAssert() {
        for (int tickets = 0; tickets <= 3; tickets++) {
            for (int given = 0; given <= 4; given++) {
                boolean right = given > 0 && given == tickets;
                Bench token = withTickets(tickets);
                Checks.same("ticket " + given + " of " + tickets, Wire.askPressed(token, Wire.signWith("a", 1, given)),
                        right ? 0 : 14);
                Checks.same("the press", token.look(1), right ? 0 : 1);
                Checks.same("VERIFIED", right ? token.signature(2, 6) : 1, 1);
            }
            Bench token = withTickets(tickets);
            Checks.same("none of " + tickets, Wire.askPressed(token, Wire.sign("a", 1)), 0);
            Checks.same("not VERIFIED", token.signature(2, 6), 0);
        }
        for (int given : new int[] {0, 1, 2147483647}) {
            Checks.same("without a PIN, " + given, Wire.askPressed(credentials(1), Wire.signWith("a", 1, given)), 14);
        }
    }

    // "not pressed: 7" and "A press is used up by MAKE, ASSERT and RESET when they get as far as looking at it."
    private static void presses() {
        String[] requests = {Wire.make(1, "a", 9), Wire.sign("a", 1), Wire.RESET};
        for (String hex : requests) {
            for (int presses = 0; presses <= 3; presses++) {
                Bench token = credentials(1);
                for (int i = 0; i < presses; i++) {
                    Checks.same("press", token.press(), true);
                }
                Checks.same("pressed " + presses, token.look(1), presses > 0 ? 1 : 0);
                Checks.same(hex, Wire.ask(token, hex), presses > 0 ? 0 : 7);
                Checks.same("used up", token.look(1), 0);
                Checks.same("then not pressed", Wire.ask(token, Wire.RESET), 7);
            }
        }
        String[] others = {Wire.INFO, Wire.NEXT, Wire.TRIES, Wire.setPin("1234"), Wire.ticket("1234"), "ff", "04 00", "01", "02",
            Wire.make(1, "", 1), Wire.makeExcluding(1, "a", 1, 1), Wire.sign("", 1), Wire.sign("b", 1), Wire.signWith("a", 1, 1)};
        for (String hex : others) {
            Bench token = credentials(1);
            Wire.askPressed(token, hex);
            Checks.same("left by " + hex, token.look(1), 1);
        }
    }

    // "a credential with that party and user is REPLACED: it keeps its name"
    private static void replacedCredentials() {
        int[] users = {0, 1, 2, 99, 100, 101, 2147483646, 2147483647};
        for (int user : users) {
            Bench token = new Bench();
            Wire.askPressed(token, Wire.make(1, "a", 100));
            Wire.askPressed(token, Wire.make(1, "b", 100));
            Wire.askPressed(token, Wire.make(1, "a", 1));
            Wire.askPressed(token, Wire.make(1, "a", user));
            int name = user == 100 ? 1 : user == 1 ? 3 : 4;
            Checks.same("user " + user, Wire.answer(token), String.format("00 a3 01 %02x 02 04 03 04", name));
            Checks.same("writes", token.look(5), name == 4 ? 24 : 25);
        }
        // Two texts with one number are one party.
        Bench token = new Bench();
        Wire.askPressed(token, Wire.make(1, "brpixwe", 5));
        Wire.askPressed(token, Wire.make(1, "jxywm", 5));
        Checks.same("replaced", Wire.answer(token), "00 a3 01 01 02 02 03 02");
        Checks.same("excluded", Wire.askPressed(token, Wire.makeExcluding(1, "brpixwe", 6, 1)), 8);
        Checks.same("found", Wire.ask(token, Wire.sign("brpixwe", 1)), 0);
    }

    // "otherwise the least name is taken that no record has, and if there is none: 6"
    private static void leastNames() {
        for (int dropped = 0; dropped <= 6; dropped++) {
            Bench token = credentials(6);
            if (dropped < 6) {
                token.cut(dropped);
                Checks.same("RESET", Wire.askPressed(token, Wire.RESET), -1);
                token.power(true);
            } else {
                Wire.askPressed(token, Wire.RESET);
            }
            for (int i = 1; i <= dropped; i++) {
                Checks.same("one more", Wire.askPressed(token, Wire.make(1, "b", i)), 0);
                Checks.same("name " + i, Wire.answer(token).substring(0, 11), "00 a3 01 0" + i);
            }
            Checks.same("none is left", Wire.askPressed(token, Wire.make(1, "b", 9)), 6);
        }
    }

    // "5 how many credentials there were (not in NEXT's)"
    private static void howManyCredentials() {
        for (int count = 1; count <= 6; count++) {
            Bench token = credentials(count);
            if (count < 6) {
                Wire.askPressed(token, Wire.make(1, "b", 1));
            }
            Wire.askPressed(token, Wire.sign("a", 1));
            String signature = String.format("%02x", token.look(8));
            Checks.same(count + " of a", Wire.answer(token), String.format("00 a6 01 %02x 02 %02x 03 %s 04 01 05 %02x 06 %02x",
                    count, count, signature, count, count));
            Checks.same("the others", token.look(4), count - 1);
        }
    }

    // "8 NEXT []: none left to go through: 5; else the next one is signed with the same challenge and VERIFIED."
    private static void nextGoesThroughTheOthers() {
        Checks.same("none at all", Wire.ask(new Bench(), Wire.NEXT), 5);
        for (int count = 1; count <= 6; count++) {
            Bench token = credentials(count);
            Checks.same("none yet", Wire.ask(token, Wire.NEXT), 5);
            Wire.askPressed(token, Wire.sign("a", 2147483647));
            for (int left = count - 1; left >= 1; left--) {
                Checks.same("left", token.look(4), left);
                Checks.same("NEXT", Wire.ask(token, Wire.NEXT), 0);
                int number = token.look(8);
                String due = String.format("00 a5 01 %02x 02 %02x 03 %02x 04 01 06 %02x", left, left, number, left);
                Checks.same("its answer", Wire.answer(token), due);
                Checks.same("its challenge", token.signature(number, 4), 2147483647);
                Checks.same("its VERIFIED", token.signature(number, 6), 0);
            }
            for (int again = 0; again < 2; again++) {
                int writes = token.look(5);
                Checks.same("none left", token.look(4), 0);
                Checks.same("NEXT", Wire.ask(token, Wire.NEXT), 5);
                Checks.same("nothing is written", token.look(5), writes);
            }
        }
        Bench guarded = withTickets(1);
        Wire.askPressed(guarded, Wire.makeWith(1, "a", 2, 1));
        Wire.askPressed(guarded, Wire.signWith("a", 0, 1));
        Wire.ask(guarded, Wire.NEXT);
        Checks.same("VERIFIED as the first", guarded.signature(4, 6), 1);
        Checks.same("its challenge", guarded.signature(4, 4), 0);
    }

    // "A request of another command with a status other than 1 and 2 leaves NEXT nothing to go through"
    private static void nextIsLeftNothing() {
        String[] leave = {"", "00", "03", "05 a0", "ff", "01 ff", "02 a1 01", "04 a0 00", "06 80", "07 00", "08 ff", "08 a1"};
        for (String hex : leave) {
            Bench token = credentials(3);
            Wire.askPressed(token, Wire.sign("a", 70000));
            int status = Wire.ask(token, hex);
            Checks.same("1 or 2", status == 1 || status == 2, true);
            Checks.same("left by " + hex, token.look(4), 2);
            Checks.same("NEXT", Wire.ask(token, Wire.NEXT), 0);
            Checks.same("the second one", token.signature(5, 2), 2);
            Checks.same("the same challenge", token.signature(5, 4), 70000);
        }
        String[] forget = {Wire.INFO, "01", "01 a1 01 60", Wire.make(1, "", 1), Wire.make(1, "a", 1),
            Wire.makeExcluding(1, "a", 1, 1), "02", "02 a1 01 05", Wire.sign("", 5), Wire.sign("a", 5), Wire.sign("b", 5),
            Wire.signWith("a", 5, 1), "06", "06 a1 01 60", Wire.TRIES, Wire.setPin("1"), Wire.setPin("1234"),
            Wire.ticket("1234"), "06 a1 01 02", Wire.RESET};
        int[] statuses = {0, 4, 3, 5, 7, 8, 4, 3, 5, 7, 9, 14, 4, 3, 0, 15, 0, 13, 5, 7};
        for (int i = 0; i < forget.length; i++) {
            Bench token = credentials(3);
            Wire.askPressed(token, Wire.sign("a", 70000));
            Checks.same("its status", Wire.ask(token, forget[i]), statuses[i]);
            Checks.same("forgotten by " + forget[i], token.look(4), 0);
            Checks.same("NEXT", Wire.ask(token, Wire.NEXT), 5);
        }
        Bench full = credentials(6);
        Wire.askPressed(full, Wire.sign("a", 1));
        Checks.same("full", Wire.askPressed(full, Wire.make(1, "a", 9)), 6);
        Checks.same("forgotten", full.look(4), 0);
    }

    // "the latest serial first"
    private static void latestSerialFirst() {
        Bench token = credentials(4);
        int[] order = {3, 1, 4, 2};
        for (int name : order) {
            Wire.askPressed(token, Wire.signAllowed("a", 1, name));
        }
        Wire.askPressed(token, Wire.sign("a", 1));
        Checks.same("2 was signed last", token.signature(9, 2), 2);
        int[] then = {4, 1, 3};
        for (int i = 0; i < then.length; i++) {
            Wire.ask(token, Wire.NEXT);
            Checks.same("then " + then[i], token.signature(10 + i, 2), then[i]);
        }
        Wire.askPressed(token, Wire.make(1, "a", 4));
        Wire.askPressed(token, Wire.sign("a", 1));
        Checks.same("one that was made again", token.signature(14, 2), 5);
        Wire.ask(token, Wire.NEXT);
        Checks.same("then the last of NEXT's", token.signature(15, 2), 3);
    }

    // "the new has not 4 to 8 characters: 15"
    private static void pinsOfEachLength() {
        for (int length = 0; length <= 13; length++) {
            String pin = DIGITS.substring(0, length);
            boolean fits = length >= 4 && length <= 8;
            Bench set = new Bench();
            Checks.same("SET with " + length, Wire.ask(set, Wire.setPin(pin)), fits ? 0 : 15);
            Checks.same("writes", set.look(5), fits ? 6 : 0);
            Checks.same("its ticket", Wire.ask(set, Wire.ticket(pin)), fits ? 0 : 13);
            Bench change = withTickets(1);
            Checks.same("CHANGE to " + length, Wire.ask(change, Wire.changePin("1234", pin)), fits ? 0 : 15);
            Checks.same("writes", change.look(5), fits ? 40 : 26);
            Checks.same("the ticket", change.look(3), fits ? 0 : 1);
            Bench wrong = withTickets(1);
            Checks.same("CHANGE from a wrong one", Wire.ask(wrong, Wire.changePin("4321", pin)), fits ? 10 : 15);
            Checks.same("WRONG", wrong.look(2), fits ? 1 : 0);
        }
    }

    /** An old PIN may have any length: it is right or wrong. */
    private static void oldPinsOfEachLength() {
        for (int length = 0; length <= 13; length++) {
            String old = DIGITS.substring(0, length);
            Checks.same("TICKET with " + length, Wire.ask(withTickets(0), Wire.ticket(old)), length == 4 ? 0 : 10);
            Checks.same("CHANGE from " + length, Wire.ask(withTickets(0), Wire.changePin(old, "5678")), length == 4 ? 0 : 10);
        }
        Bench longest = new Bench();
        Wire.ask(longest, Wire.setPin("97643259"));
        Checks.same("another text with the same number", Wire.ask(longest, Wire.ticket("83992637")), 0);
        Checks.same("one that differs at its end", Wire.ask(longest, Wire.ticket("83992638")), 10);
        Bench four = withTickets(0);
        Checks.same("of another length", Wire.ask(four, Wire.ticket("6f2n92c0")), 0);
    }
}
