/** The command MAKE, and FULL. */
public final class MakeTest {
    public static void main(String[] args) {
        checksParameters();
        answers();
        takesTheLeastName();
        replaces();
        excludes();
        wantsTheTicket();
        isFull();
        looksInOrder();
        Checks.end("MakeTest");
    }

    private static void checksParameters() {
        Bench token = new Bench();
        token.press();
        String[] wrongTypes = {"01 a3 01 61 61 02 61 61 03 05", "01 a3 01 05 02 05 03 05", "01 a3 01 05 02 41 61 03 05",
            "01 a3 01 05 02 61 61 03 f5", "01 a4 01 05 02 61 61 03 05 05 01", "01 a4 01 05 02 61 61 03 05 05 a0",
            "01 a4 01 05 02 61 61 03 05 05 81 f5", "01 a4 01 05 02 61 61 03 05 05 82 01 60",
            "01 a4 01 05 02 61 61 03 05 05 81 80", "01 a4 01 05 02 61 61 03 05 08 60", "01 a1 08 f4"};
        for (String hex : wrongTypes) {
            Checks.same("wrong type " + hex, Wire.ask(token, hex), 3);
        }
        String[] missing = {"01", "01 a0", "01 a2 02 61 61 03 05", "01 a2 01 05 03 05", "01 a2 01 05 02 61 61"};
        for (String hex : missing) {
            Checks.same("missing " + hex, Wire.ask(token, hex), 4);
        }
        Checks.same("no text", Wire.ask(token, Wire.make(1, "", 1)), 5);
        Checks.same("nine characters", Wire.ask(token, Wire.make(1, "123456789", 1)), 5);
        Checks.same("nothing was written", token.look(5), 0);
        Checks.same("no key was made", token.look(7), 0);
        Checks.same("eight characters", Wire.ask(token, Wire.make(1, "12345678", 1)), 0);
        Checks.same("one character", Wire.askPressed(token, Wire.make(1, " ", 1)), 0);
        Checks.same("an empty list", Wire.askPressed(token, Wire.makeExcluding(1, "a", 1)), 0);
    }

    private static void answers() {
        Bench token = new Bench();
        Wire.askPressed(token, Wire.make(7, "a", 5));
        Checks.same("name, key, signature", Wire.answer(token), "00 a3 01 01 02 01 03 01");
        Wire.askPressed(token, Wire.sign("a", 5));
        Wire.askPressed(token, Wire.make(7, "b", 5));
        Checks.same("each with its own number", Wire.answer(token), "00 a3 01 02 02 02 03 03");
    }

    private static void takesTheLeastName() {
        Bench token = new Bench();
        for (int user = 1; user <= 6; user++) {
            Wire.askPressed(token, Wire.make(7, "a", user));
            Checks.same("name " + user, token.cell(user - 1, 0) % 16, user);
        }
        token.cut(3);
        Wire.askPressed(token, Wire.RESET);
        token.power(true);
        Wire.askPressed(token, Wire.make(7, "b", 1));
        Wire.answer(token);
        Checks.same("name 1 is free again", token.cell(0, 0), 1 + 16 * 7);
    }

    private static void replaces() {
        Bench token = new Bench();
        Wire.askPressed(token, Wire.make(7, "a", 5));
        Wire.askPressed(token, Wire.make(7, "a", 6));
        Wire.askPressed(token, Wire.make(7, "b", 5));
        Wire.askPressed(token, Wire.sign("a", 5));
        Wire.askPressed(token, Wire.make(7, "a", 6));
        Checks.same("it keeps its name", Wire.answer(token), "00 a3 01 02 02 04 03 05");
        Checks.same("serial, party, user, key, counter 0", Wire.page(token, 1).substring(0, 12), "82 752 6 4 0");
        Checks.same("the old page is erased", token.cell(3, 0), -1);
        Wire.ask(token, Wire.INFO);
        Checks.same("three credentials", Wire.answer(token), "00 a3 01 03 02 f4 03 04");
    }

    private static void excludes() {
        Bench token = new Bench();
        Wire.askPressed(token, Wire.make(7, "a", 5));
        Wire.askPressed(token, Wire.make(7, "b", 5));
        token.press();
        Checks.same("its name", Wire.ask(token, Wire.makeExcluding(1, "a", 9, 1)), 8);
        Checks.same("behind others", Wire.ask(token, Wire.makeExcluding(1, "a", 9, 300, 0, 2, 1)), 8);
        Checks.same("even to replace it", Wire.ask(token, Wire.makeExcluding(1, "b", 5, 2)), 8);
        Checks.same("pressed still", token.look(1), 1);
        Checks.same("another party's", Wire.ask(token, Wire.makeExcluding(1, "a", 9, 2, 0, 6, 7, 17, 33, 70000)), 0);
        token.power(false);
        token.power(true);
        Checks.same("not pressed comes later", Wire.ask(token, Wire.makeExcluding(1, "a", 9, 3)), 8);
        Wire.ask(token, Wire.setPin("1234"));
        Wire.ask(token, Wire.ticket("1234"));
        Checks.same("the PIN's name is no credential",
                Wire.ask(token, "01 a5 01 01 02 61 61 03 01 05 81 00 08 01"), 7);
    }

    private static void wantsTheTicket() {
        Bench token = new Bench();
        Checks.same("no PIN: any", Wire.askPressed(token, Wire.makeWith(1, "a", 1, 99)), 0);
        Checks.same("not verified", token.signature(1, 6), 0);
        Wire.ask(token, Wire.setPin("1234"));
        token.press();
        Checks.same("none", Wire.ask(token, Wire.make(1, "a", 1)), 14);
        Checks.same("there is none, and 0 is not it", Wire.ask(token, Wire.makeWith(1, "a", 1, 0)), 14);
        Wire.ask(token, Wire.ticket("1234"));
        Checks.same("not there", Wire.ask(token, Wire.make(1, "a", 1)), 14);
        Checks.same("a wrong one", Wire.ask(token, Wire.makeWith(1, "a", 1, 2)), 14);
        Checks.same("the ticket", Wire.ask(token, Wire.makeWith(1, "a", 1, 1)), 0);
        Checks.same("verified", token.signature(2, 6), 1);
        Checks.same("it serves again", Wire.askPressed(token, Wire.makeWith(1, "a", 2, 1)), 0);
        Wire.ask(token, Wire.ticket("1234"));
        Checks.same("the one before", Wire.askPressed(token, Wire.makeWith(1, "a", 3, 1)), 14);
        Checks.same("the one from now on", Wire.askPressed(token, Wire.makeWith(1, "a", 3, 2)), 0);
    }

    private static void isFull() {
        Bench token = new Bench();
        for (int user = 1; user <= 6; user++) {
            Checks.same("credential " + user, Wire.askPressed(token, Wire.make(7, "a", user)), 0);
        }
        String store = Wire.store(token);
        Checks.same("the sixth name can be excluded", Wire.askPressed(token, Wire.makeExcluding(7, "a", 7, 6)), 8);
        Checks.same("a seventh", Wire.askPressed(token, Wire.make(7, "a", 7)), 6);
        Checks.same("no key is made", token.look(7), 6);
        Checks.same("no PIN fits either", Wire.ask(token, Wire.setPin("1234")), 6);
        Checks.same("the store is as it was", Wire.store(token), store);
        Checks.same("the names stay", Wire.askPressed(token, Wire.make(7, "a", 3)), 0);
        Checks.same("signing goes on", Wire.askPressed(token, Wire.sign("a", 3)), 0);

        Bench guarded = new Bench();
        Wire.ask(guarded, Wire.setPin("1234"));
        Wire.ask(guarded, Wire.ticket("1234"));
        for (int user = 1; user <= 5; user++) {
            Checks.same("credential " + user, Wire.askPressed(guarded, Wire.makeWith(7, "a", user, 1)), 0);
        }
        Checks.same("a name is free, but no two pages", Wire.askPressed(guarded, Wire.makeWith(7, "a", 6, 1)), 6);
        Checks.same("a key was not made", guarded.look(7), 5);
        Checks.same("replacing goes on", Wire.askPressed(guarded, Wire.makeWith(7, "a", 5, 1)), 0);
        Checks.same("tickets too", Wire.ask(guarded, Wire.ticket("1234")), 0);
    }

    private static void looksInOrder() {
        Bench token = new Bench();
        Wire.askPressed(token, Wire.make(7, "a", 1));
        Wire.ask(token, Wire.setPin("1234"));
        Checks.same("5 before 14", Wire.ask(token, Wire.make(7, "", 1)), 5);
        Checks.same("14 before 8", Wire.ask(token, Wire.makeExcluding(7, "a", 1, 1)), 14);
        Wire.ask(token, Wire.ticket("1234"));
        Checks.same("8 before 7", Wire.ask(token, "01 a5 01 01 02 61 61 03 01 05 81 01 08 01"), 8);
        Checks.same("7", Wire.ask(token, Wire.makeWith(7, "a", 1, 1)), 7);
    }
}
