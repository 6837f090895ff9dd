/** Promise 8. */
public final class CutTest {
    public static void main(String[] args) {
        isRefused();
        tearsAtEachWrite();
        countsTheWritesOfOneRequest();
        isOverWithTheRequest();
        isReplaced();
        keepsTheTryThatWasPaid();
        stopsReset();
        Checks.end("CutTest");
    }

    private static void isRefused() {
        Bench token = new Bench();
        Checks.same("below 0", token.cut(-1), false);
        Checks.same("far below 0", token.cut(Integer.MIN_VALUE), false);
        Checks.same("no cut was set", Wire.ask(token, Wire.setPin("1234")), 0);
        token.cut(0);
        Checks.same("refused in place of one", token.cut(-1), false);
        Checks.same("the first one stays", Wire.ask(token, Wire.ticket("1234")), -1);
        Checks.same("no power", token.cut(1), false);
        token.power(true);
        Checks.same("none is set", Wire.ask(token, Wire.ticket("1234")), 0);
        Checks.same("a great one", token.cut(Integer.MAX_VALUE), true);
        Checks.same("is never reached", Wire.ask(token, Wire.ticket("1234")), 0);
    }

    private static void tearsAtEachWrite() {
        int[] whole = {17, 752, 5, 1, 0};
        for (int k = 0; k <= 6; k++) {
            Bench token = new Bench();
            token.press();
            token.cut(k);
            Checks.same("cut after " + k, Wire.ask(token, Wire.make(7, "a", 5)), k < 6 ? -1 : 0);
            for (int cell = 0; cell < 5; cell++) {
                Checks.same("cell " + cell, token.cell(0, cell), cell < k ? whole[cell] : -1);
            }
            Checks.same("seal", token.cell(0, 5) == -1, k < 6);
            Checks.same("writes", token.look(5), k);
            Checks.same("power", token.look(0), k < 6 ? 0 : 1);
            Checks.same("the key was made", token.look(7), 1);
            Checks.same("the signature only behind the record", token.look(8), k < 6 ? 0 : 1);
            Checks.same("press, input and output are gone", token.look(1) + token.look(6), 0);
        }
    }

    private static void countsTheWritesOfOneRequest() {
        Bench token = new Bench();
        Wire.ask(token, Wire.setPin("1234"));
        token.cut(14);
        Checks.same("two puts are 14 writes", Wire.ask(token, Wire.ticket("1234")), 0);
        token.cut(13);
        Checks.same("13 are too few", Wire.ask(token, Wire.ticket("1234")), -1);
        token.power(true);
        Wire.ask(token, Wire.ticket("1234"));
        Checks.same("a ticket comes behind its record", token.look(3), 2);
        token.cut(7);
        Checks.same("a wrong one is one put", Wire.ask(token, Wire.ticket("0000")), 10);
    }

    private static void isOverWithTheRequest() {
        Bench token = new Bench();
        token.cut(0);
        Checks.same("no write", Wire.ask(token, Wire.INFO), 0);
        Checks.same("over", Wire.ask(token, Wire.setPin("1234")), 0);
        token.cut(0);
        Checks.same("a refused one", Wire.ask(token, Wire.setPin("1234")), 5);
        Checks.same("over, too", Wire.ask(token, Wire.ticket("1234")), 0);
        token.cut(0);
        Checks.same("a malformed one", Wire.ask(token, "06 ff"), 2);
        Checks.same("over as well", Wire.ask(token, Wire.ticket("1234")), 0);
        token.open(0, 1);
        token.cut(3);
        token.press();
        Checks.same("a client's request is one", token.ceremony(0, 0, true, 2), 99);
        token.power(true);
        token.cut(0);
        Checks.same("refused", token.ceremony(0, 0, true, 0), 114);
        Checks.same("over", Wire.ask(token, Wire.ticket("1234")), 0);
    }

    private static void isReplaced() {
        Bench token = new Bench();
        token.cut(0);
        token.cut(6);
        Checks.same("the later one counts", Wire.ask(token, Wire.setPin("1234")), 0);
        token.cut(20);
        token.feed(0x06a20105, 4);
        token.cut(0);
        Wire.feed(token, "02" + Wire.text("1234"));
        Checks.same("also with input", token.send(), -1);
    }

    private static void keepsTheTryThatWasPaid() {
        Bench token = new Bench();
        Wire.ask(token, Wire.setPin("1234"));
        for (int k = 6; k < 14; k++) {
            token.cut(k);
            int status = Wire.ask(token, Wire.ticket("1234"));
            Checks.same("cut after " + k, status, -1);
            token.power(true);
            Wire.ask(token, Wire.TRIES);
            boolean secondStands = k == 13;
            Checks.same("tries after " + k, Wire.answer(token), secondStands ? "00 a1 01 08" : "00 a1 01 07");
            Wire.ask(token, Wire.ticket("1234"));
        }
        token.cut(5);
        Wire.ask(token, Wire.ticket("0000"));
        token.power(true);
        Wire.ask(token, Wire.TRIES);
        Checks.same("a torn record counts nothing", Wire.answer(token), "00 a1 01 08");
    }

    private static void stopsReset() {
        Bench token = new Bench();
        for (int user = 0; user < 3; user++) {
            Wire.askPressed(token, Wire.make(1, "a", user));
        }
        token.cut(2);
        Checks.same("RESET", Wire.askPressed(token, Wire.RESET), -1);
        Checks.same("by rising page", token.cell(0, 0) + token.cell(1, 0), -2);
        Checks.same("the third stands", token.cell(2, 0), 3 + 16 * 3);
        token.power(true);
        Checks.same("the least free name", Wire.askPressed(token, Wire.make(1, "a", 0)), 0);
        Checks.same("the serial goes on", token.cell(0, 0), 1 + 16 * 4);
        token.cut(2);
        Checks.same("two records, two writes", Wire.askPressed(token, Wire.RESET), 0);
        Wire.ask(token, Wire.setPin("1234"));
        Checks.same("the serial begins anew", token.cell(0, 0), 16);
    }
}
