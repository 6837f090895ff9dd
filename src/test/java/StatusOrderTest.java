/**
 * STATUS: of all that is wrong with a request, the first in the order is answered. Each command is asked with
 * every choice of its faults at once, so that each status is seen before each later one.
 */
public final class StatusOrderTest {
    private static final int TYPE = 1;
    private static final int MISSING = 2;
    private static final int LENGTH = 4;

    public static void main(String[] args) {
        noSuchCommandFirst();
        malformedNext();
        makeInOrder();
        assertInOrder();
        setInOrder();
        changeInOrder();
        ticketInOrder();
        otherPinWhats();
        resetAndNext();
        wrongTypes();
        missingParameters();
        keysPassedOver();
        Checks.end("StatusOrderTest");
    }

    private static boolean is(int faults, int fault) {
        return (faults & fault) != 0;
    }

    /** The answer is one byte, and a request with a status has made nothing. */
    private static void refused(String what, Bench token, String hex, int due) {
        int writes = token.look(5);
        int keys = token.look(7);
        int signatures = token.look(8);
        Checks.same(what + ", " + hex, Wire.ask(token, hex), due);
        if (due != 0) {
            Checks.same(what + ", a byte", token.waiting(), 1);
            Checks.same(what + ", the status", token.take(), (long) due);
            Checks.same(what + ", writes", token.look(5), writes);
            Checks.same(what + ", keys", token.look(7), keys);
            Checks.same(what + ", signatures", token.look(8), signatures);
        }
        Checks.same(what + ", the input", token.look(6), 0);
    }

    private static void noSuchCommandFirst() {
        int[] none = {0, 3, 5, 9, 16, 33, 65, 129, 255};
        String[] rests = {"", "a0", "a1", "ff", "00", "a0 00", "a1 01 60", "a1 02 60"};
        for (int command : none) {
            for (String rest : rests) {
                refused("no command", new Bench(), String.format("%02x", command) + rest, 1);
            }
        }
        refused("no byte", new Bench(), "", 1);
    }

    private static void malformedNext() {
        String[] malformed = {"a1", "a1 01", "a2 01 60 01 60", "a1 01 60 00", "a1 01 ff", "80", "a2 02 05 01 05", "a1 60 01"};
        for (int command : new int[] {1, 2, 4, 6, 7, 8}) {
            for (String rest : malformed) {
                refused("malformed", new Bench(), String.format("%02x", command) + rest, 2);
            }
        }
    }

    private static Bench store(boolean hasPin, int credentials) {
        Bench token = new Bench();
        if (hasPin) {
            Wire.ask(token, Wire.setPin("1234"));
            Wire.ask(token, Wire.ticket("1234"));
        }
        for (int user = 1; user <= credentials; user++) {
            Wire.askPressed(token, hasPin ? Wire.makeWith(1, "a", user, 1) : Wire.make(1, "a", user));
        }
        return token;
    }

    private static final int WRONG_TICKET = 8;
    private static final int EXCLUDED = 16;
    private static final int NOT_PRESSED = 32;
    private static final int FULL = 64;

    private static void makeInOrder() {
        for (int faults = 0; faults < 128; faults++) {
            for (int kind = 0; kind < 4; kind++) {
                boolean hasPin = kind != 0;
                if (!hasPin && is(faults, WRONG_TICKET)) {
                    continue;
                }
                Bench token = store(hasPin, is(faults, FULL) ? hasPin ? 5 : 6 : 1);
                if (!is(faults, NOT_PRESSED)) {
                    token.press();
                }
                int due = is(faults, TYPE) ? 3 : is(faults, MISSING) ? 4 : is(faults, LENGTH) ? 5
                        : is(faults, WRONG_TICKET) ? 14 : is(faults, EXCLUDED) ? 8 : is(faults, NOT_PRESSED) ? 7
                        : is(faults, FULL) ? 6 : 0;
                refused("MAKE " + faults + ", " + kind, token, makeRequest(faults, kind), due);
                boolean looked = due == 7 || due == 6 || due == 0;
                Checks.same("the press", token.look(1), looked || is(faults, NOT_PRESSED) ? 0 : 1);
            }
        }
    }

    private static String makeRequest(int faults, int kind) {
        String text = is(faults, LENGTH) ? kind == 1 ? "" : "123456789" : "a";
        boolean withTicket = !is(faults, WRONG_TICKET) || kind > 1;
        int pairs = (is(faults, MISSING) ? 2 : 3) + (is(faults, EXCLUDED) ? 1 : 0) + (withTicket ? 1 : 0);
        String ticket = Wire.number(is(faults, WRONG_TICKET) ? kind == 2 ? 0 : 2 : 1);
        return String.format("01 %02x 01", 0xa0 + pairs) + (is(faults, TYPE) ? "60" : "05") + "02" + Wire.text(text)
                + (is(faults, MISSING) ? "" : "03 09") + (is(faults, EXCLUDED) ? "05 81 01" : "")
                + (withTicket ? "08" + ticket : "");
    }

    private static final int NO_CREDENTIALS = 16;

    private static void assertInOrder() {
        for (int faults = 0; faults < 64; faults++) {
            for (int kind = 0; kind < 2; kind++) {
                Bench token = store(true, 1);
                if (!is(faults, NOT_PRESSED)) {
                    token.press();
                }
                int due = is(faults, TYPE) ? 3 : is(faults, MISSING) ? 4 : is(faults, LENGTH) ? 5
                        : is(faults, WRONG_TICKET) ? 14 : is(faults, NO_CREDENTIALS) ? 9 : is(faults, NOT_PRESSED) ? 7 : 0;
                refused("ASSERT " + faults + ", " + kind, token, assertRequest(faults, kind), due);
                boolean looked = due == 7 || due == 0;
                Checks.same("the press", token.look(1), looked || is(faults, NOT_PRESSED) ? 0 : 1);
            }
        }
    }

    private static String assertRequest(int faults, int kind) {
        boolean listed = is(faults, NO_CREDENTIALS) && kind == 1;
        String text = is(faults, LENGTH) ? kind == 0 ? "" : "123456789" : is(faults, NO_CREDENTIALS) && kind == 0 ? "b" : "a";
        boolean hasType = is(faults, TYPE) && is(faults, MISSING);
        int pairs = 1 + (is(faults, MISSING) ? 0 : 1) + (listed || hasType ? 1 : 0) + 1;
        return String.format("02 %02x 01", 0xa0 + pairs) + Wire.text(text)
                + (is(faults, MISSING) ? "" : "02" + (is(faults, TYPE) ? "60" : "05"))
                + (hasType ? "03 05" : listed ? "03 81 02" : "")
                + "06" + (is(faults, WRONG_TICKET) ? kind == 0 ? "00" : "02" : "01");
    }

    private static String pinRequest(int what, int faults, String old, String fresh) {
        int pairs = 1 + (old == null ? 0 : 1) + (fresh == null ? 0 : 1);
        return String.format("06 %02x 01 %02x", 0xa0 + pairs, what)
                + (old == null ? "" : "02" + (is(faults, TYPE) ? "05" : Wire.text(old)))
                + (fresh == null ? "" : "03" + Wire.text(fresh));
    }

    private static void setInOrder() {
        String[] wrongLengths = {"", "123", "123456789"};
        for (int faults = 0; faults < 8; faults++) {
            for (int state = 0; state < 3; state++) {
                for (String wrongLength : wrongLengths) {
                    // State 1 has a PIN record, state 2 has one erased page and no PIN record.
                    Bench token = store(state == 1, state == 2 ? 6 : 1);
                    String fresh = is(faults, MISSING) ? null : is(faults, LENGTH) ? wrongLength : "5678";
                    int due = is(faults, TYPE) ? 3 : is(faults, MISSING) ? 4 : state == 1 ? 5 : is(faults, LENGTH) ? 15
                            : state == 2 ? 6 : 0;
                    refused("SET " + faults + ", " + state, token, pinRequest(3, faults, is(faults, TYPE) ? "" : null, fresh), due);
                }
            }
        }
    }

    /** State 0: no PIN; 1: TRIES 0 and WRONG 3; 2: TRIES 0, WRONG 0; 3: WRONG 3; 4: nothing is against it. */
    private static Bench pinState(int state) {
        Bench token = store(state > 0, 1);
        int spent = state == 1 ? 5 : state == 2 ? 8 : 0;
        for (int i = 0; i < spent; i++) {
            token.cut(7);
            Wire.ask(token, Wire.ticket("1234"));
            token.power(true);
        }
        for (int i = 0; i < 3 && (state == 1 || state == 3); i++) {
            Wire.ask(token, Wire.ticket("0000"));
        }
        Checks.same("WRONG of state " + state, token.look(2), state == 1 || state == 3 ? 3 : 0);
        return token;
    }

    private static int pinDue(int state) {
        return state == 0 ? 13 : state == 1 || state == 2 ? 11 : state == 3 ? 12 : 0;
    }

    private static void changeInOrder() {
        String[] wrongLengths = {"", "123", "123456789"};
        String[] olds = {"1234", "0000", "", "123456789"};
        for (int state = 0; state < 5; state++) {
            for (int faults = 0; faults < 8; faults++) {
                for (String old : olds) {
                    String wrongLength = wrongLengths[(faults + state) % 3];
                    String fresh = is(faults, MISSING) ? null : is(faults, LENGTH) ? wrongLength : "5678";
                    int due = is(faults, TYPE) ? 3 : is(faults, MISSING) ? 4 : pinDue(state) != 0 ? pinDue(state)
                            : is(faults, LENGTH) ? 15 : old.equals("1234") ? 0 : 10;
                    Bench token = pinState(state);
                    if (due == 10) {
                        Checks.same("CHANGE", Wire.ask(token, pinRequest(4, faults, old, fresh)), 10);
                    } else {
                        refused("CHANGE " + faults + ", " + state, token, pinRequest(4, faults, old, fresh), due);
                    }
                }
            }
        }
        refused("CHANGE without the old one", pinState(4), pinRequest(4, 0, null, "5678"), 4);
        refused("even without a PIN", pinState(0), pinRequest(4, 0, null, "5678"), 4);
        refused("even with a short one", pinState(4), pinRequest(4, 0, null, "1"), 4);
    }

    private static void ticketInOrder() {
        for (int state = 0; state < 5; state++) {
            refused("TICKET, wrong type", pinState(state), pinRequest(5, TYPE, "1234", null), 3);
            refused("TICKET, wrong type of what it does not want", pinState(state), "06 a3 01 05 02 64 31 32 33 34 03 05", 3);
            refused("TICKET, missing", pinState(state), pinRequest(5, 0, null, null), 4);
            refused("TICKET, missing, a new one", pinState(state), pinRequest(5, 0, null, "5678"), 4);
            refused("TICKET", pinState(state), pinRequest(5, 0, "1234", null), pinDue(state));
            refused("TICKET with a new one of any length", pinState(state), pinRequest(5, 0, "1234", "1"), pinDue(state));
            Checks.same("TICKET, a wrong one", Wire.ask(pinState(state), pinRequest(5, 0, "0000", null)),
                    state == 4 ? 10 : pinDue(state));
        }
    }

    private static void otherPinWhats() {
        for (int state = 0; state < 5; state++) {
            for (int what : new int[] {0, 2, 6, 7, 8, 23}) {
                refused("what " + what, pinState(state), pinRequest(what, 0, null, null), 5);
                refused("what " + what + ", wrong type", pinState(state), pinRequest(what, TYPE, "", null), 3);
                refused("what " + what + ", short ones", pinState(state), pinRequest(what, 0, "", ""), 5);
            }
            Checks.same("what 1", Wire.ask(pinState(state), Wire.TRIES), 0);
            refused("what 1, wrong type", pinState(state), pinRequest(1, TYPE, "", null), 3);
            refused("what 4 + 256", pinState(state), "06 a3 01 19 01 04 02 60 03 60", 5);
            refused("the greatest what", pinState(state), "06 a1 01 1a 7f ff ff ff", 5);
            refused("no what", pinState(state), "06 a2 02 64 31 32 33 34 03 64 31 32 33 34", 4);
        }
    }

    private static void resetAndNext() {
        Bench token = store(false, 2);
        refused("RESET malformed", token, "07 a1", 2);
        refused("RESET not pressed", token, "07", 7);
        refused("NEXT malformed", token, "08 a1", 2);
        refused("NEXT with none left", token, "08", 5);
        refused("NEXT passes keys over", token, "08 a2 01 f5 02 60", 5);
        refused("RESET passes keys over", token, "07 a2 01 f5 02 60", 7);
        token.press();
        refused("RESET malformed", token, "07 a0 00", 2);
        Checks.same("still pressed", token.look(1), 1);
        Wire.ask(token, Wire.sign("a", 1));
        refused("NEXT malformed", token, "08 a0 00", 2);
        Checks.same("NEXT still has one", token.look(4), 1);
    }

    /** Each parameter with each kind that it must not have: 3, whatever else is missing. */
    private static void wrongTypes() {
        String[] noNumber = {"40", "41 05", "60", "61 35", "80", "81 05", "a0", "f4", "f5"};
        String[] noText = {"00", "05", "40", "41 61", "80", "81 61 61", "a0", "f4", "f5"};
        String[] noList = {"00", "01", "40", "41 01", "60", "61 31", "a0", "a1 00 01", "f4", "f5", "81 60", "81 40", "81 f4",
            "81 80", "81 a0", "82 01 60", "82 60 01", "83 01 f5 02", "81 81 01"};
        wrongTypes("01", new int[] {1, 3, 8}, noNumber);
        wrongTypes("01", new int[] {2}, noText);
        wrongTypes("01", new int[] {5}, noList);
        wrongTypes("02", new int[] {2, 6}, noNumber);
        wrongTypes("02", new int[] {1}, noText);
        wrongTypes("02", new int[] {3}, noList);
        wrongTypes("06", new int[] {1}, noNumber);
        wrongTypes("06", new int[] {2, 3}, noText);
    }

    private static void wrongTypes(String command, int[] keys, String[] items) {
        for (int key : keys) {
            for (String item : items) {
                refused("wrong type", new Bench(), command + "a1" + Wire.number(key) + item, 3);
            }
        }
    }

    private static void missingParameters() {
        String[] make = {"01 05", "02 61 61", "03 05"};
        String[] sign = {"01 61 61", "02 05"};
        missing("01", make);
        missing("02", sign);
        refused("PIN", new Bench(), "06", 4);
        refused("PIN", new Bench(), "06 a0", 4);
    }

    private static void missing(String command, String[] pairs) {
        for (int there = 0; there < (1 << pairs.length) - 1; there++) {
            StringBuilder hex = new StringBuilder();
            for (int i = 0; i < pairs.length; i++) {
                hex.append((there >> i & 1) == 1 ? pairs[i] : "");
            }
            Bench token = new Bench();
            token.press();
            refused("missing", token, command + String.format("%02x", 0xa0 + Integer.bitCount(there)) + hex, 4);
        }
    }

    // "Other keys are passed over."
    private static void keysPassedOver() {
        String[] items = {"05", "40", "61 41", "80", "81 60", "a0", "a1 05 05", "f4"};
        for (String item : items) {
            String great = "18 18" + item + "1a 7f ff ff ff" + item;
            Checks.same("MAKE", Wire.askPressed(store(false, 1), "01 a9 00" + item + "01 05 02 61 61 03 05 04" + item + "06"
                    + item + "07" + item + great), 0);
            Checks.same("MAKE, 9", Wire.askPressed(store(false, 1), "01 a4 01 05 02 61 61 03 05 09" + item), 0);
            Checks.same("ASSERT", Wire.askPressed(store(false, 1), "02 a7 00" + item + "01 61 61 02 05 04" + item + "05"
                    + item + great), 0);
            Checks.same("ASSERT, 7 and 8", Wire.askPressed(store(false, 1), "02 a4 01 61 61 02 05 07" + item + "08" + item), 0);
            Checks.same("PIN", Wire.ask(new Bench(), "06 a7 00" + item + "01 01 04" + item + "05" + item + "08" + item + great), 0);
            Checks.same("INFO", Wire.ask(new Bench(), "04 a6 00" + item + "01" + item + "02" + item + "03" + item + great), 0);
            Checks.same("RESET", Wire.askPressed(new Bench(), "07 a4 01" + item + "02" + item + great), 0);
        }
    }
}
