/** Promise 4, with the order of the statuses 1 to 5 and the commands that answer nothing. */
public final class SendTest {
    public static void main(String[] args) {
        answersTheStatus();
        replacesTheOutput();
        looksInOrder();
        tellsThatThePowerWent();
        refusesWithoutPower();
        Checks.end("SendTest");
    }

    private static void answersTheStatus() {
        Bench token = new Bench();
        Checks.same("nothing in the input", token.send(), 1);
        Checks.same("its answer", Wire.answer(token), "01");
        int[] unknown = {0, 3, 5, 9, 10, 128, 255};
        for (int command : unknown) {
            Checks.same("command " + command, Wire.ask(token, String.format("%02x", command)), 1);
            Checks.same("even malformed " + command, Wire.ask(token, String.format("%02xff", command)), 1);
        }
        int[] statuses = {4, 4, 0, 4, 7, 5};
        int[] known = {1, 2, 4, 6, 7, 8};
        for (int i = 0; i < known.length; i++) {
            Checks.same("command " + known[i], Wire.ask(token, String.format("%02x", known[i])), statuses[i]);
            Checks.same("an empty map", Wire.ask(token, String.format("%02xa0", known[i])), statuses[i]);
            Checks.same("malformed", Wire.ask(token, String.format("%02xa1", known[i])), 2);
        }
        Checks.same("the input is empty", token.look(6), 0);
    }

    private static void replacesTheOutput() {
        Bench token = new Bench();
        Wire.ask(token, Wire.INFO);
        Checks.same("info", token.waiting(), 8);
        Wire.ask(token, Wire.NEXT);
        Checks.same("a status alone", Wire.answer(token), "05");
        Wire.ask(token, Wire.INFO);
        token.send();
        Checks.same("what was left is gone", Wire.answer(token), "01");
        Wire.ask(token, Wire.setPin("1234"));
        Checks.same("SET answers an empty map", Wire.answer(token), "00 a0");
        Wire.ask(token, Wire.changePin("1234", "5678"));
        Checks.same("CHANGE too", Wire.answer(token), "00 a0");
        Wire.askPressed(token, Wire.RESET);
        Checks.same("RESET too", Wire.answer(token), "00 a0");
    }

    private static void looksInOrder() {
        Bench token = new Bench();
        Checks.same("a wrong type before a missing one", Wire.ask(token, "01 a1 08 61 61"), 3);
        Checks.same("missing", Wire.ask(token, "01 a1 01 05"), 4);
        Checks.same("missing before not allowed", Wire.ask(token, "01 a2 01 05 02 60"), 4);
        Checks.same("not allowed", Wire.ask(token, "01 a3 01 05 02 60 03 05"), 5);
        Checks.same("other keys are passed over", Wire.ask(token, "01 a7 00 f5 01 05 02 61 61 03 05 04 f5 06 f5 07 f5"), 7);
        Checks.same("far keys too", Wire.ask(token, "01 a4 01 05 02 61 61 03 05 09 f5"), 7);
        Checks.same("and those of other commands", Wire.ask(token, "02 a4 01 61 61 02 05 05 f5 08 f5"), 9);
        Checks.same("INFO has none", Wire.ask(token, "04 a2 01 f5 02 80"), 0);
    }

    private static void tellsThatThePowerWent() {
        Bench token = new Bench();
        Wire.ask(token, Wire.INFO);
        token.cut(0);
        Checks.same("cut", Wire.ask(token, Wire.setPin("1234")), -1);
        Checks.same("no answer", token.waiting(), 0);
        Checks.same("no input", token.look(6), 0);
    }

    private static Bench withoutPower() {
        Bench token = new Bench();
        token.power(false);
        return token;
    }

    private static void refusesWithoutPower() {
        Twins.keeps("no power", SendTest::withoutPower, IllegalStateException.class, Bench::send);
    }
}
