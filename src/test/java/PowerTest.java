/** Promise 7. */
public final class PowerTest {
    public static void main(String[] args) {
        switches();
        takesAllThatIsNotStored();
        takesTheCut();
        erasesWhatIsTorn();
        erasesTheOlderOfTwo();
        noCutStopsTheErasing();
        Checks.end("PowerTest");
    }

    private static void switches() {
        Bench token = new Bench();
        Checks.same("is on", token.power(true), false);
        Checks.same("off", token.power(false), true);
        Checks.same("look", token.look(0), 0);
        Checks.same("is off", token.power(false), false);
        Checks.same("on", token.power(true), true);
        Checks.same("look", token.look(0), 1);
        Checks.same("nothing was written", token.look(5), 0);
    }

    private static void takesAllThatIsNotStored() {
        Bench token = new Bench();
        Wire.askPressed(token, Wire.make(1, "a", 1));
        Wire.askPressed(token, Wire.make(1, "a", 2));
        Wire.ask(token, Wire.setPin("1234"));
        Wire.ask(token, Wire.ticket("1234"));
        Wire.askPressed(token, Wire.sign("a", 1));
        token.press();
        token.feed(4, 1);
        token.open(2, 7);
        Checks.same("NEXT has one", token.look(4), 1);
        Checks.same("the ticket is there", token.look(3), 1);
        Checks.same("refused, so nothing goes", token.power(true), false);
        Checks.same("NEXT still has one", token.look(4), 1);
        String store = Wire.store(token);
        token.power(false);
        int[] gone = {0, 0, 0, 0, 0, token.look(5), 0, 2, 3};
        for (int what = 0; what < gone.length; what++) {
            Checks.same("without power, look " + what, token.look(what), gone[what]);
        }
        Checks.same("the store stays", Wire.store(token), store);
        Checks.same("the party's challenge stays", token.party(2, 1), 1);
        token.power(true);
        gone[0] = 1;
        for (int what = 0; what < gone.length; what++) {
            Checks.same("with power again, look " + what, token.look(what), gone[what]);
        }
        Checks.same("a whole store stays", Wire.store(token), store);
        Checks.same("the old ticket is none", Wire.ask(token, Wire.signWith("a", 1, 1)), 14);
        Wire.ask(token, Wire.ticket("1234"));
        Checks.same("a ticket's number comes once", token.look(3), 2);
    }

    private static void takesTheCut() {
        Bench token = new Bench();
        token.cut(0);
        token.power(false);
        token.power(true);
        Checks.same("no cut any more", Wire.ask(token, Wire.setPin("1234")), 0);
    }

    private static void erasesWhatIsTorn() {
        for (int k = 0; k < 6; k++) {
            Bench token = new Bench();
            Wire.askPressed(token, Wire.make(1, "a", 1));
            token.press();
            token.cut(k);
            Checks.same("cut after " + k, Wire.ask(token, Wire.make(1, "b", 1)), -1);
            Checks.same("writes", token.look(5), 6 + k);
            token.power(true);
            Checks.same("erased", Wire.page(token, 1), "-1 -1 -1 -1 -1 -1");
            Checks.same("one write if it was torn", token.look(5), 6 + k + (k > 0 ? 1 : 0));
            Checks.same("the other record stays", token.cell(0, 0), 17);
            Wire.ask(token, Wire.INFO);
            Checks.same("info", Wire.answer(token), "00 a3 01 01 02 f4 03 06");
        }
    }

    private static void erasesTheOlderOfTwo() {
        Bench token = new Bench();
        Wire.askPressed(token, Wire.make(1, "a", 1));
        Wire.askPressed(token, Wire.make(1, "a", 2));
        token.press();
        token.cut(6);
        Checks.same("cut before the old one is erased", Wire.ask(token, Wire.signAllowed("a", 1, 1)), -1);
        Checks.same("the old one", token.cell(0, 0), 1 + 16);
        Checks.same("the other name", token.cell(1, 0), 2 + 16 * 2);
        Checks.same("the new one", token.cell(2, 0), 1 + 16 * 3);
        token.power(true);
        Checks.same("the old one is erased", Wire.page(token, 0), "-1 -1 -1 -1 -1 -1");
        Checks.same("the other name stays", token.cell(1, 0), 2 + 16 * 2);
        Checks.same("the new one stays", token.cell(2, 4), 1);
        Checks.same("one write", token.look(5), 19);
        // Now the newer record stands on the lower page.
        token.press();
        token.cut(6);
        Wire.ask(token, Wire.signAllowed("a", 1, 1));
        Checks.same("the new one is on page 0", token.cell(0, 0), 1 + 16 * 4);
        token.power(true);
        Checks.same("the new one stays", token.cell(0, 4), 2);
        Checks.same("the old one is erased", Wire.page(token, 2), "-1 -1 -1 -1 -1 -1");
    }

    // "(No cut stops that.)": a cut that went off is over, one can't be set without power, and what is erased then is no
    // request's write.
    private static void noCutStopsTheErasing() {
        for (int k = 1; k <= 6; k++) {
            Bench token = new Bench();
            Wire.askPressed(token, Wire.make(1, "a", 1));
            token.cut(k);
            Checks.same("cut after " + k, Wire.askPressed(token, Wire.make(1, "a", 1)), -1);
            Checks.same("none can be set", token.cut(0), false);
            token.power(true);
            Checks.same("one page is erased", token.look(5), 6 + k + 1);
            int page = k == 6 ? 1 : 0;
            Checks.same("the other stands", token.cell(page, 0), 1 + 16 * (page + 1));
            token.cut(7);
            Checks.same("seven writes of the next request", Wire.askPressed(token, Wire.make(1, "a", 1)), 0);
            Checks.same("writes", token.look(5), 6 + k + 1 + 7);
        }
    }
}
