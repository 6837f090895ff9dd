/**
 * Two objects made alike, of which one gets a call that must change nothing: whatever is asked of them
 * afterwards, they answer alike. What can't be seen by a call (a cut that is set, the bytes of the input
 * and the output, numbers to come, the user of an open challenge) shows in what later calls do.
 */
final class Twins {
    interface Setup {
        Bench make();
    }

    interface Act {
        Object on(Bench token);
    }

    private static final Act[] TAILS = {
        Wire::state, Wire::answer, Twins::sendInput, Twins::goThroughNext, Twins::openAnother, Twins::registerAtAnother,
        Twins::registerAtTheFirst, Twins::askForATicket, Twins::switchPower};

    private Twins() {
    }

    static Object outcome(Bench token, Act act) {
        try {
            return act.on(token);
        } catch (RuntimeException e) {
            return e.getClass();
        }
    }

    /** The call answers what is due, or throws it if that is a class, and changes nothing. */
    static void keeps(String what, Setup setup, Object due, Act act) {
        for (int i = 0; i < TAILS.length; i++) {
            Bench called = setup.make();
            Object got = outcome(called, act);
            if (i == 0) {
                Checks.same(what, got, due);
            }
            Checks.same(what + ", then tail " + i, outcome(called, TAILS[i]), outcome(setup.make(), TAILS[i]));
        }
    }

    private static Object sendInput(Bench token) {
        int status = token.send();
        return status + " " + Wire.answer(token) + " " + Wire.store(token) + looks(token);
    }

    private static Object goThroughNext(Bench token) {
        Object before = outcome(token, Bench::send);
        Object status = outcome(token, t -> Wire.ask(t, Wire.NEXT));
        return before + " " + status + " " + Wire.answer(token) + " " + Wire.signatures(token);
    }

    private static Object openAnother(Bench token) {
        return token.open(3, 7) + " " + Wire.parties(token);
    }

    private static Object registerAtAnother(Bench token) {
        token.open(2, 5);
        return ceremonyAt(token, 2);
    }

    private static Object registerAtTheFirst(Bench token) {
        return ceremonyAt(token, 0);
    }

    private static Object ceremonyAt(Bench token, int party) {
        int ticket = token.look(3);
        token.press();
        Object verdict = outcome(token, t -> t.ceremony(party, party, true, ticket));
        return verdict + " " + Wire.store(token) + Wire.parties(token) + looks(token);
    }

    private static Object askForATicket(Bench token) {
        Object before = outcome(token, Bench::send);
        Object status = outcome(token, t -> Wire.ask(t, Wire.ticket("1234")));
        return before + " " + status + " " + Wire.answer(token) + " " + looks(token);
    }

    private static Object switchPower(Bench token) {
        token.power(token.look(0) == 0);
        String once = Wire.state(token);
        token.power(token.look(0) == 0);
        return once + looks(token) + Wire.store(token);
    }

    private static String looks(Bench token) {
        StringBuilder text = new StringBuilder();
        for (int what = 0; what < 9; what++) {
            text.append(token.look(what)).append(' ');
        }
        return text.toString();
    }
}
