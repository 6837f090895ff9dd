/** TRIES from 8 down to 0 and WRONG up to 3, by TICKET and by CHANGE. */
public final class PinEdgesTest {
    private static final String WRONG_TICKET = Wire.ticket("0000");
    private static final String WRONG_CHANGE = Wire.changePin("0000", "5678");
    private static final String RIGHT_TICKET = Wire.ticket("1234");
    private static final String RIGHT_CHANGE = Wire.changePin("1234", "5678");

    public static void main(String[] args) {
        eachStateOfTriesAndWrong();
        wrongOnesInARow();
        powerBetweenWrongOnes();
        rightOnesMakeGood();
        blockedForGood();
        ticketsComeAndGo();
        triesWithoutAPin();
        triesAsTheStoreHasThem();
        Checks.end("PinEdgesTest");
    }

    /** Spends tries by cuts, which count no WRONG, then gives wrong PINs. */
    private static Bench state(int tries, int wrong) {
        Bench token = new Bench();
        Wire.ask(token, Wire.setPin("1234"));
        for (int i = 8; i > tries + wrong; i--) {
            token.cut(7);
            Wire.ask(token, RIGHT_TICKET);
            token.power(true);
        }
        for (int i = 0; i < wrong; i++) {
            Wire.ask(token, i % 2 == 0 ? WRONG_TICKET : WRONG_CHANGE);
        }
        return token;
    }

    private static void pin(String when, Bench token, int tries, int wrong) {
        Checks.same(when + ", WRONG", token.look(2), wrong);
        Checks.same(when + ", what 1", Wire.ask(token, Wire.TRIES), 0);
        Checks.same(when + ", TRIES", Wire.answer(token), "00 a1 01 0" + tries);
    }

    // "TRIES 0: 11; WRONG is 3: 12 .. the record is put with TRIES 1 less. Then, if the old one's number is not the
    // record's: WRONG grows by 1, there is no ticket; TRIES is 0 now: 11; WRONG is 3: 12; else 10. If it is: WRONG is 0"
    private static void eachStateOfTriesAndWrong() {
        String[] requests = {WRONG_TICKET, WRONG_CHANGE, RIGHT_TICKET, RIGHT_CHANGE};
        for (int wrong = 0; wrong <= 3; wrong++) {
            for (int tries = 8 - wrong; tries >= 0; tries--) {
                pin("made", state(tries, wrong), tries, wrong);
                for (int i = 0; i < requests.length; i++) {
                    askIn(tries, wrong, requests[i], i >= 2, i == 2);
                }
            }
        }
    }

    private static void askIn(int tries, int wrong, String hex, boolean right, boolean ticket) {
        Bench token = state(tries, wrong);
        int writes = token.look(5);
        boolean paid = tries > 0 && wrong < 3;
        int due = tries == 0 ? 11 : wrong == 3 ? 12 : right ? 0 : tries == 1 ? 11 : wrong == 2 ? 12 : 10;
        String what = hex + " with TRIES " + tries + ", WRONG " + wrong;
        Checks.same(what, Wire.ask(token, hex), due);
        Checks.same(what + ", writes", token.look(5) - writes, !paid ? 0 : right ? 14 : 7);
        Checks.same(what + ", ticket", token.look(3), paid && ticket ? 1 : 0);
        pin(what, token, !paid ? tries : right ? 8 : tries - 1, !paid ? wrong : right ? 0 : wrong + 1);
    }

    private static void wrongOnesInARow() {
        for (String hex : new String[] {WRONG_TICKET, WRONG_CHANGE}) {
            Bench token = state(8, 0);
            int[] due = {10, 10, 12, 12, 12};
            int[] tries = {7, 6, 5, 5, 5};
            for (int i = 0; i < due.length; i++) {
                Checks.same("wrong " + (i + 1), Wire.ask(token, hex), due[i]);
                pin("wrong " + (i + 1), token, tries[i], Math.min(i + 1, 3));
            }
            Checks.same("a right one", Wire.ask(token, RIGHT_TICKET), 12);
            Checks.same("a right change", Wire.ask(token, RIGHT_CHANGE), 12);
            pin("then", token, 5, 3);
        }
    }

    private static void powerBetweenWrongOnes() {
        int[] due = {10, 10, 12, 10, 10, 12, 10, 11, 11};
        Bench token = state(8, 0);
        for (int i = 0; i < due.length; i++) {
            Checks.same("wrong " + (i + 1), Wire.ask(token, i % 2 == 0 ? WRONG_TICKET : WRONG_CHANGE), due[i]);
            pin("wrong " + (i + 1), token, Math.max(0, 7 - i), Math.min(i, 7) % 3 + 1);
            if (due[i] == 12) {
                token.power(false);
                token.power(true);
                pin("the power came", token, 7 - i, 0);
            }
        }
        Bench each = state(8, 0);
        for (int i = 0; i < 8; i++) {
            Checks.same("with the power between, " + i, Wire.ask(each, WRONG_TICKET), i < 7 ? 10 : 11);
            Checks.same("WRONG", each.look(2), 1);
            each.power(false);
            each.power(true);
        }
        pin("the last", each, 0, 0);
    }

    private static void rightOnesMakeGood() {
        for (int wrong = 0; wrong <= 2; wrong++) {
            Bench token = state(8 - wrong, wrong);
            Checks.same("right", Wire.ask(token, RIGHT_TICKET), 0);
            pin("right after " + wrong, token, 8, 0);
            Checks.same("wrong again", Wire.ask(token, WRONG_TICKET), 10);
            Checks.same("wrong again", Wire.ask(token, WRONG_TICKET), 10);
            Checks.same("wrong again", Wire.ask(token, WRONG_TICKET), 12);
        }
        Bench last = state(1, 0);
        Checks.same("the last try may be right", Wire.ask(last, RIGHT_CHANGE), 0);
        pin("then", last, 8, 0);
        Checks.same("with the new one", Wire.ask(last, Wire.ticket("5678")), 0);
    }

    private static void blockedForGood() {
        Bench token = state(0, 0);
        for (int i = 0; i < 2; i++) {
            Checks.same("a right one", Wire.ask(token, RIGHT_TICKET), 11);
            Checks.same("a right change", Wire.ask(token, RIGHT_CHANGE), 11);
            Checks.same("a wrong one", Wire.ask(token, WRONG_TICKET), 11);
            Checks.same("another SET", Wire.ask(token, Wire.setPin("1234")), 5);
            pin("blocked", token, 0, 0);
            token.power(false);
            token.power(true);
        }
        Checks.same("RESET", Wire.askPressed(token, Wire.RESET), 0);
        pin("8 if there is no PIN record", token, 8, 0);
        Checks.same("SET", Wire.ask(token, Wire.setPin("1234")), 0);
        Checks.same("a right one", Wire.ask(token, RIGHT_TICKET), 0);
    }

    private static void ticketsComeAndGo() {
        Bench token = state(8, 0);
        Wire.ask(token, RIGHT_TICKET);
        Wire.ask(token, RIGHT_TICKET);
        Checks.same("the second", token.look(3), 2);
        Wire.ask(token, Wire.changePin("1234", "1"));
        Checks.same("15 leaves it", token.look(3), 2);
        Wire.ask(token, WRONG_CHANGE);
        Checks.same("a wrong change takes it", token.look(3), 0);
        Wire.ask(token, RIGHT_TICKET);
        Checks.same("the third", token.look(3), 3);
        Wire.ask(token, RIGHT_CHANGE);
        Checks.same("a change takes it", token.look(3), 0);
        Wire.ask(token, Wire.ticket("5678"));
        Checks.same("the fourth", token.look(3), 4);
        Wire.ask(token, Wire.RESET);
        Checks.same("a refused RESET leaves it", token.look(3), 4);
        Wire.askPressed(token, Wire.RESET);
        Checks.same("RESET takes it", token.look(3), 0);

        Bench three = state(8, 0);
        Wire.ask(three, RIGHT_TICKET);
        Wire.ask(three, WRONG_TICKET);
        Wire.ask(three, WRONG_TICKET);
        Wire.ask(three, WRONG_TICKET);
        Wire.askPressed(three, Wire.RESET);
        Checks.same("RESET makes WRONG 0", three.look(2), 0);
        Wire.ask(three, Wire.setPin("1234"));
        Checks.same("a right one then", Wire.ask(three, RIGHT_TICKET), 0);
        Checks.same("the second ticket", three.look(3), 2);
    }

    private static void triesWithoutAPin() {
        Bench token = new Bench();
        pin("no PIN", token, 8, 0);
        Checks.same("TICKET", Wire.ask(token, RIGHT_TICKET), 13);
        Checks.same("CHANGE", Wire.ask(token, RIGHT_CHANGE), 13);
        pin("still none", token, 8, 0);
        Checks.same("nothing is written", token.look(5), 0);
    }

    // "TRIES and everything in records is as the store has it at that time."
    private static void triesAsTheStoreHasThem() {
        Bench token = state(8, 0);
        for (int left = 7; left >= 5; left--) {
            Wire.ask(token, WRONG_TICKET);
            int page = token.cell(0, 0) == -1 ? 1 : 0;
            Checks.same("its cell", token.cell(page, 2), left);
        }
        token.power(false);
        token.power(true);
        Wire.ask(token, RIGHT_TICKET);
        Checks.same("8 again", token.cell(1, 2), 8);
        Checks.same("its serial", token.cell(1, 0), 16 * 6);
    }
}
