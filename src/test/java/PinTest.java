/** The commands PIN, INFO and RESET. */
public final class PinTest {
    public static void main(String[] args) {
        checksParameters();
        sets();
        changes();
        countsWrongOnes();
        blocks();
        makesTickets();
        tellsInfo();
        resets();
        Checks.end("PinTest");
    }

    private static void tries(String when, Bench token, int due) {
        Wire.ask(token, Wire.TRIES);
        Checks.same(when + ", tries", Wire.answer(token), "00 a1 01 0" + due);
    }

    private static Bench withPin() {
        Bench token = new Bench();
        Wire.ask(token, Wire.setPin("1234"));
        return token;
    }

    private static void checksParameters() {
        Bench token = new Bench();
        String[] wrongTypes = {"06 a1 01 60", "06 a2 01 01 02 05", "06 a2 01 01 03 05", "06 a2 01 05 02 44 31 32 33 34",
            "06 a1 03 f5", "06 a2 01 09 03 80"};
        for (String hex : wrongTypes) {
            Checks.same("wrong type " + hex, Wire.ask(token, hex), 3);
        }
        String[] missing = {"06", "06 a1 02 60", "06 a2 02 60 03 60", "06 a1 01 03", "06 a2 01 03 02 60",
            "06 a2 01 04 02 60", "06 a2 01 04 03 60", "06 a1 01 05", "06 a2 01 05 03 60"};
        for (String hex : missing) {
            Checks.same("missing " + hex, Wire.ask(token, hex), 4);
        }
        String[] others = {"06 a1 01 00", "06 a1 01 02", "06 a1 01 06", "06 a1 01 1a 7f ff ff ff", "06 a3 01 02 02 60 03 60"};
        for (String hex : others) {
            Checks.same("no such what " + hex, Wire.ask(token, hex), 5);
        }
        Checks.same("more than is wanted", Wire.ask(token, "06 a3 01 01 02 60 03 60"), 0);
    }

    private static void sets() {
        Bench token = new Bench();
        tries("no PIN", token, 8);
        Checks.same("3 characters", Wire.ask(token, Wire.setPin("123")), 15);
        Checks.same("9 characters", Wire.ask(token, Wire.setPin("123456789")), 15);
        Checks.same("none", Wire.ask(token, Wire.setPin("")), 15);
        Checks.same("nothing is written", token.look(5), 0);
        Checks.same("4 characters", Wire.ask(token, Wire.setPin("1234")), 0);
        tries("set", token, 8);
        Checks.same("there is one", Wire.ask(token, Wire.setPin("5678")), 5);
        Checks.same("5 before 15", Wire.ask(token, Wire.setPin("1")), 5);
        Checks.same("8 characters", Wire.ask(new Bench(), Wire.setPin("12345678")), 0);
    }

    private static void changes() {
        Bench token = new Bench();
        Checks.same("no PIN", Wire.ask(token, Wire.changePin("1234", "1")), 13);
        Wire.ask(token, Wire.setPin("1234"));
        Wire.ask(token, Wire.ticket("1234"));
        int writes = token.look(5);
        Checks.same("too short", Wire.ask(token, Wire.changePin("0000", "123")), 15);
        Checks.same("too long", Wire.ask(token, Wire.changePin("1234", "123456789")), 15);
        Checks.same("no try is paid", token.look(5), writes);
        Checks.same("the ticket stays", token.look(3), 1);
        Checks.same("wrong", Wire.ask(token, Wire.changePin("0000", "5678")), 10);
        Checks.same("no ticket", token.look(3), 0);
        Checks.same("wrong is 1", token.look(2), 1);
        tries("wrong", token, 7);
        Wire.ask(token, Wire.ticket("1234"));
        Checks.same("change", Wire.ask(token, Wire.changePin("1234", "87654321")), 0);
        Checks.same("no ticket", token.look(3), 0);
        tries("changed", token, 8);
        Checks.same("the old one is wrong", Wire.ask(token, Wire.ticket("1234")), 10);
        Checks.same("the new one is right", Wire.ask(token, Wire.ticket("87654321")), 0);
        Checks.same("the next ticket", token.look(3), 3);
    }

    private static void countsWrongOnes() {
        Bench token = withPin();
        Checks.same("first", Wire.ask(token, Wire.ticket("0000")), 10);
        Checks.same("second", Wire.ask(token, Wire.ticket("")), 10);
        Checks.same("right", Wire.ask(token, Wire.ticket("1234")), 0);
        Checks.same("wrong is 0", token.look(2), 0);
        Checks.same("first", Wire.ask(token, Wire.ticket("12345")), 10);
        Checks.same("second", Wire.ask(token, Wire.changePin("4321", "5678")), 10);
        Checks.same("third", Wire.ask(token, Wire.ticket("123")), 12);
        int writes = token.look(5);
        Checks.same("the right one", Wire.ask(token, Wire.ticket("1234")), 12);
        Checks.same("12 before 15", Wire.ask(token, Wire.changePin("1234", "")), 12);
        Checks.same("nothing is written", token.look(5), writes);
        tries("three wrong", token, 5);
        token.power(false);
        token.power(true);
        Checks.same("the power went", Wire.ask(token, Wire.ticket("1234")), 0);
        tries("right", token, 8);
    }

    private static void blocks() {
        Bench token = withPin();
        int[] due = {10, 10, 12, 10, 10, 12, 10, 11};
        for (int i = 0; i < due.length; i++) {
            Checks.same("wrong one " + (i + 1), Wire.ask(token, Wire.ticket("0000")), due[i]);
            tries("after " + (i + 1), token, 7 - i);
            if (due[i] == 12) {
                token.power(false);
                token.power(true);
            }
        }
        Checks.same("blocked", Wire.ask(token, Wire.ticket("1234")), 11);
        Checks.same("11 before 15", Wire.ask(token, Wire.changePin("1234", "")), 11);
        token.power(false);
        token.power(true);
        Checks.same("for good", Wire.ask(token, Wire.ticket("1234")), 11);
        Wire.askPressed(token, Wire.RESET);
        Checks.same("until RESET", Wire.ask(token, Wire.setPin("1234")), 0);
        Checks.same("which ends it", Wire.ask(token, Wire.ticket("1234")), 0);

        Bench cut = withPin();
        for (int i = 0; i < 5; i++) {
            cut.cut(7);
            Wire.ask(cut, Wire.ticket("1234"));
            cut.power(true);
        }
        Wire.ask(cut, Wire.ticket("0000"));
        Wire.ask(cut, Wire.ticket("0000"));
        Checks.same("11 before 12", Wire.ask(cut, Wire.ticket("0000")), 11);
        Checks.same("the third wrong one", cut.look(2), 3);
        Checks.same("11 before 12 again", Wire.ask(cut, Wire.ticket("1234")), 11);

        Bench last = withPin();
        for (int i = 0; i < 7; i++) {
            last.cut(7);
            Wire.ask(last, Wire.ticket("1234"));
            last.power(true);
        }
        tries("the last try", last, 1);
        Checks.same("may be right", Wire.ask(last, Wire.ticket("1234")), 0);
        tries("then", last, 8);
    }

    private static void makesTickets() {
        Bench token = new Bench();
        Checks.same("no PIN", Wire.ask(token, Wire.ticket("1234")), 13);
        Wire.ask(token, Wire.setPin("1234"));
        for (int number = 1; number < 4; number++) {
            Checks.same("ticket " + number, Wire.ask(token, Wire.ticket("1234")), 0);
            Checks.same("its answer", Wire.answer(token), "00 a1 01 0" + number);
            Checks.same("it is the one", token.look(3), number);
        }
        Wire.ask(token, Wire.ticket("0000"));
        Checks.same("a wrong PIN takes it", token.look(3), 0);
    }

    private static void info(String when, Bench token, String due) {
        Checks.same(when, Wire.ask(token, Wire.INFO), 0);
        Checks.same(when, Wire.answer(token), due);
    }

    private static void tellsInfo() {
        Bench token = new Bench();
        info("new", token, "00 a3 01 00 02 f4 03 07");
        Wire.askPressed(token, Wire.make(1, "a", 1));
        info("a credential", token, "00 a3 01 01 02 f4 03 06");
        Wire.ask(token, Wire.setPin("1234"));
        info("a PIN", token, "00 a3 01 01 02 f5 03 05");
        Wire.ask(token, Wire.ticket("1234"));
        for (int user = 2; user < 6; user++) {
            Wire.askPressed(token, Wire.makeWith(1, "a", user, 1));
        }
        info("full", token, "00 a3 01 05 02 f5 03 01");
    }

    private static void resets() {
        Bench token = withPin();
        Wire.ask(token, Wire.ticket("1234"));
        Wire.askPressed(token, Wire.makeWith(1, "a", 1, 1));
        String store = Wire.store(token);
        Checks.same("not pressed", Wire.ask(token, Wire.RESET), 7);
        Checks.same("the store stays", Wire.store(token), store);
        Checks.same("the ticket stays", token.look(3), 1);
        int writes = token.look(5);
        Checks.same("reset", Wire.askPressed(token, Wire.RESET), 0);
        Checks.same("erased", Wire.store(token), "-1 -1 -1 -1 -1 -1|".repeat(7));
        Checks.same("a write each", token.look(5), writes + 2);
        Checks.same("no ticket", token.look(3), 0);
        Checks.same("nothing to drop", Wire.askPressed(token, Wire.RESET), 0);
        Checks.same("no write", token.look(5), writes + 2);
        Wire.ask(token, Wire.setPin("1234"));
        for (int i = 0; i < 3; i++) {
            Wire.ask(token, Wire.ticket("0000"));
        }
        Wire.askPressed(token, Wire.RESET);
        Checks.same("wrong is 0", token.look(2), 0);
        Wire.ask(token, Wire.setPin("1234"));
        Wire.ask(token, Wire.ticket("1234"));
        Checks.same("tickets go on", token.look(3), 2);
        Wire.askPressed(token, Wire.makeWith(1, "a", 1, 2));
        Checks.same("keys go on", Wire.answer(token), "00 a3 01 01 02 02 03 02");
    }
}
