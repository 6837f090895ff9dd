import java.util.Arrays;

/** Each sentence of STORE at its boundaries, but for cuts (CutEdgesTest). A comment before a test quotes the sentence. */
public final class StoreEdgesTest {
    private static final int PIN_1234 = 1583520847;

    public static void main(String[] args) {
        pagesAndCells();
        sealsThatAreKnown();
        numbersOfTexts();
        recordsOfTheLeastAndGreatestNumbers();
        aStoreThatFillsUp();
        aNewNameNeedsTwoErasedPages();
        aPinNeedsTwoErasedPages();
        anotherNameIsPutInAnyCase();
        theErasedPageWithTheLeastNumber();
        fullBeforeAnythingIsDone();
        serialsGoOn();
        serialsAfterTheGreatestIsDropped();
        infoAtEachFilling();
        fullOfRecordsThatHoldAnErasedCell();
        noRecordIsNoCredential();
        thePinIsNoCredential();
        Checks.end("StoreEdgesTest");
    }

    private static String[] blanks() {
        String[] pages = new String[7];
        Arrays.fill(pages, Wire.BLANK);
        return pages;
    }

    private static void pages(String when, Bench token, String... due) {
        for (int page = 0; page < due.length; page++) {
            Checks.same(when + ", page " + page, Wire.page(token, page), due[page]);
        }
    }

    // "7 PAGES of 6 CELLS (ints); an ERASED cell is -1."
    private static void pagesAndCells() {
        Bench token = new Bench();
        for (int page = -2; page <= 8; page++) {
            for (int k = -2; k <= 7; k++) {
                boolean there = page >= 0 && page <= 6 && k >= 0 && k <= 5;
                Checks.same("cell " + page + ", " + k, token.cell(page, k), there ? -1 : 0);
            }
        }
        int[][] far = {{0, 6}, {0, 41}, {0, 42}, {1, -1}, {6, 6}, {7, 0}, {7, -6}, {7, -1}, {-1, 6}, {-1, 11},
            {Integer.MAX_VALUE, 0}, {Integer.MIN_VALUE, 0}, {0, Integer.MAX_VALUE}, {0, Integer.MIN_VALUE},
            {715827883, 0}, {1 << 30, 0}, {1 << 31, 0}, {Integer.MAX_VALUE, Integer.MAX_VALUE}};
        for (int[] f : far) {
            Checks.same("cell " + f[0] + ", " + f[1], token.cell(f[0], f[1]), 0);
        }
        Wire.askPressed(token, Wire.make(1, "a", 5));
        for (int k = -1; k <= 6; k++) {
            Checks.same("a used page's cell " + k, token.cell(0, k) != 0, k >= 0 && k <= 5 && k != 4);
            Checks.same("the next one's cell " + k, token.cell(1, k), k >= 0 && k <= 5 ? -1 : 0);
        }
    }

    // "x = 7, for each of the cells 0 to 4: x = (x exclusive-or the cell) * 16777619 + 1, at last its lowest 31 bits"
    private static void sealsThatAreKnown() {
        Bench token = new Bench();
        Wire.askPressed(token, Wire.make(1, "a", 3));
        Checks.same("whose 32nd bit is 0", Wire.page(token, 0), "17 752 3 1 0 1228900585");
        Bench other = new Bench();
        Wire.askPressed(other, Wire.make(1, "a", 5));
        Checks.same("whose 32nd bit is 1", Wire.page(other, 0), "17 752 5 1 0 1118289067");
        Bench pin = new Bench();
        Wire.ask(pin, Wire.setPin("1234"));
        Checks.same("of the PIN", Wire.page(pin, 0), "16 1583520847 8 0 0 510893049");
    }

    // "The number of a text: x = 5, for each character c: x = x * 131 + c, wrapping."
    private static void numbersOfTexts() {
        String[] texts = {"a", "d", " ", "~", "ab", "    ", "~~~~", "     ", "~~~~~", "zzzzzzzz", "w8ozrvt7", "kn99cnbj",
            "ams0hyqf", "vquiywpu", "plhk2up9"};
        int[] numbers = {752, 755, 687, 781, 98610, 1544991893, 1757937989, 530475103, -1638357299, -872404155, 752, -1,
            0, Integer.MAX_VALUE, Integer.MIN_VALUE};
        for (int i = 0; i < texts.length; i++) {
            Bench token = new Bench();
            Wire.askPressed(token, Wire.make(1, texts[i], 5));
            Checks.same("the party " + texts[i], Wire.page(token, 0), Wire.record(1, 1, numbers[i], 5, 1, 0));
            Checks.same("its signature", token.signature(1, 3), numbers[i]);
            if (texts[i].length() >= 4) {
                Bench pin = new Bench();
                Wire.ask(pin, Wire.setPin(texts[i]));
                Checks.same("the PIN " + texts[i], Wire.page(pin, 0), Wire.record(0, 1, numbers[i], 8, 0, 0));
            }
        }
    }

    /** A cell of a record may be -1, as an erased one is, and must not make the page an erased one. */
    private static void recordsOfTheLeastAndGreatestNumbers() {
        for (String text : new String[] {"kn99cnbj", "ams0hyqf", "vquiywpu", "plhk2up9"}) {
            for (int user : new int[] {0, Integer.MAX_VALUE}) {
                Bench token = new Bench();
                Wire.askPressed(token, Wire.make(Integer.MAX_VALUE, text, user));
                Wire.ask(token, Wire.setPin(text));
                int number = Wire.numberOfText(text);
                pages(text, token, Wire.record(1, 1, number, user, 1, 0), Wire.record(0, 2, number, 8, 0, 0), Wire.BLANK);
                token.power(false);
                token.power(true);
                Checks.same("nothing to erase", token.look(5), 12);
                Checks.same("a ticket", Wire.ask(token, Wire.ticket(text)), 0);
                Checks.same("assert", Wire.askPressed(token, Wire.signWith(text, 0, 1)), 0);
                pages(text, token, Wire.BLANK, Wire.record(0, 4, number, 8, 0, 0), Wire.record(1, 5, number, user, 1, 1));
                Checks.same("its challenge", token.signature(2, 4), 0);
            }
        }
    }

    private static Bench credentials(int count) {
        Bench token = new Bench();
        for (int user = 1; user <= count; user++) {
            Wire.askPressed(token, Wire.make(1, "a", user));
        }
        return token;
    }

    private static Bench withPin(int credentials) {
        Bench token = new Bench();
        Wire.ask(token, Wire.setPin("1234"));
        Wire.ask(token, Wire.ticket("1234"));
        for (int user = 1; user <= credentials; user++) {
            Wire.askPressed(token, Wire.makeWith(1, "a", user, 1));
        }
        return token;
    }

    // "the erased page with the least number gets the cells 0 to 5, one write each (its serial is 1 more than the
    // greatest of all records, 1 if there are none)"
    private static void aStoreThatFillsUp() {
        String[] due = blanks();
        for (int used = 0; used <= 6; used++) {
            if (used > 0) {
                due[used - 1] = Wire.record(used, used, 752, used, used, 0);
            }
            Bench token = credentials(used);
            pages(used + " used", token, due);
            Checks.same(used + " used, writes", token.look(5), 6 * used);
        }
    }

    // "A new name needs two erased pages, else it is FULL (6) before anything is done"
    private static void aNewNameNeedsTwoErasedPages() {
        for (int used = 0; used <= 6; used++) {
            Bench token = credentials(used);
            Checks.same("a new name with " + used + " used", Wire.askPressed(token, Wire.make(1, "b", 1)), used <= 5 ? 0 : 6);
        }
        for (int used = 1; used <= 6; used++) {
            Bench token = withPin(used - 1);
            Checks.same("one with a PIN, " + used + " used", Wire.askPressed(token, Wire.makeWith(1, "b", 1, 1)),
                    used <= 5 ? 0 : 6);
        }
    }

    private static void aPinNeedsTwoErasedPages() {
        for (int used = 0; used <= 6; used++) {
            Bench token = credentials(used);
            Checks.same("a PIN with " + used + " used", Wire.ask(token, Wire.setPin("1234")), used <= 5 ? 0 : 6);
            Checks.same("its page", Wire.page(token, used),
                    used <= 5 ? Wire.record(0, used + 1, PIN_1234, 8, 0, 0) : Wire.BLANK);
        }
    }

    // "then, if there was a record of that name, its page is erased, one write .. another name is put in any case (one is
    // always erased)"
    private static void anotherNameIsPutInAnyCase() {
        for (int used = 1; used <= 6; used++) {
            for (int name = 1; name <= used; name++) {
                Bench signed = credentials(used);
                Checks.same("sign " + name, Wire.askPressed(signed, Wire.signAllowed("a", 1, name)), 0);
                moved("sign " + name + " of " + used, signed, name, used, Wire.record(name, used + 1, 752, name, name, 1));
                Bench made = credentials(used);
                Checks.same("make " + name, Wire.askPressed(made, Wire.make(1, "a", name)), 0);
                moved("make " + name + " of " + used, made, name, used, Wire.record(name, used + 1, 752, name, used + 1, 0));
            }
            Bench guarded = withPin(used - 1);
            Checks.same("a ticket with " + used + " used", Wire.ask(guarded, Wire.ticket("1234")), 0);
            Checks.same("change with " + used + " used", Wire.ask(guarded, Wire.changePin("1234", "5678")), 0);
        }
    }

    private static void moved(String what, Bench token, int name, int used, String record) {
        Checks.same(what + ", its page", Wire.page(token, name - 1), Wire.BLANK);
        Checks.same(what + ", the new one", Wire.page(token, used), record);
        Checks.same(what + ", writes", token.look(5), 6 * used + 7);
    }

    private static void theErasedPageWithTheLeastNumber() {
        Bench token = credentials(3);
        int[] names = {2, 1, 3, 3, 1, 2};
        int[] pages = {3, 1, 0, 2, 0, 1};
        for (int i = 0; i < names.length; i++) {
            Wire.askPressed(token, Wire.signAllowed("a", 1, names[i]));
            Checks.same("record " + i + " is on page " + pages[i], token.cell(pages[i], 0), names[i] + 16 * (4 + i));
        }
        Checks.same("a new name, too", Wire.askPressed(token, Wire.make(1, "b", 1)), 0);
        Checks.same("is on page 3", token.cell(3, 0), 4 + 16 * 10);
    }

    private static void fullBeforeAnythingIsDone() {
        for (boolean hasPin : new boolean[] {false, true}) {
            Bench token = hasPin ? withPin(5) : credentials(6);
            String store = Wire.store(token);
            int writes = token.look(5);
            int made = token.look(7);
            Checks.same("full", Wire.askPressed(token, hasPin ? Wire.makeWith(1, "b", 1, 1) : Wire.make(1, "b", 1)), 6);
            Checks.same("store", Wire.store(token), store);
            Checks.same("writes", token.look(5), writes);
            Checks.same("keys", token.look(7), made);
            Checks.same("signatures", token.look(8), made);
            Checks.same("ticket", token.look(3), hasPin ? 1 : 0);
            token.cut(0);
            token.press();
            Checks.same("no cut comes", Wire.ask(token, hasPin ? Wire.makeWith(1, "b", 1, 1) : Wire.make(1, "b", 1)), 6);
            Checks.same("power", token.look(0), 1);
        }
        Bench token = credentials(6);
        token.cut(0);
        Checks.same("nor to a PIN", Wire.ask(token, Wire.setPin("1234")), 6);
        Checks.same("no PIN", Wire.ask(token, Wire.ticket("1234")), 13);
    }

    private static void serialsGoOn() {
        Bench token = credentials(1);
        for (int serial = 2; serial <= 30; serial++) {
            Wire.askPressed(token, Wire.sign("a", 1));
            Checks.same("serial " + serial, token.cell(serial % 2 == 0 ? 1 : 0, 0), 1 + 16 * serial);
        }
        Wire.askPressed(token, Wire.RESET);
        Wire.askPressed(token, Wire.make(1, "a", 1));
        Checks.same("1 if there are none", token.cell(0, 0), 1 + 16);
    }

    /** RESET drops by rising page, so a cut can leave a record that is not the latest. */
    private static void serialsAfterTheGreatestIsDropped() {
        Bench token = credentials(3);
        Wire.askPressed(token, Wire.signAllowed("a", 1, 1));
        Wire.askPressed(token, Wire.signAllowed("a", 1, 3));
        pages("before", token, Wire.record(3, 5, 752, 3, 3, 1), Wire.record(2, 2, 752, 2, 2, 0), Wire.BLANK,
                Wire.record(1, 4, 752, 1, 1, 1));
        token.cut(1);
        Checks.same("RESET", Wire.askPressed(token, Wire.RESET), -1);
        token.power(true);
        Wire.askPressed(token, Wire.make(1, "b", 9));
        pages("the least name, 1 more than 4", token, Wire.record(3, 5, 753, 9, 4, 0), Wire.record(2, 2, 752, 2, 2, 0));

        Bench middle = credentials(3);
        Wire.askPressed(middle, Wire.signAllowed("a", 1, 1));
        middle.cut(1);
        Wire.askPressed(middle, Wire.RESET);
        middle.power(true);
        Wire.askPressed(middle, Wire.make(1, "b", 9));
        pages("name 2 is the least", middle, Wire.record(2, 5, 753, 9, 4, 0), Wire.BLANK, Wire.record(3, 3, 752, 3, 3, 0),
                Wire.record(1, 4, 752, 1, 1, 1));
    }

    private static void infoAtEachFilling() {
        for (int used = 0; used <= 6; used++) {
            Bench token = credentials(used);
            Checks.same("info", Wire.ask(token, Wire.INFO), 0);
            Checks.same("info", Wire.answer(token), String.format("00 a3 01 %02x 02 f4 03 %02x", used, 7 - used));
        }
        for (int used = 1; used <= 6; used++) {
            Bench token = withPin(used - 1);
            Checks.same("info", Wire.ask(token, Wire.INFO), 0);
            Checks.same("info", Wire.answer(token), String.format("00 a3 01 %02x 02 f5 03 %02x", used - 1, 7 - used));
        }
    }

    /** Six records whose party is -1: they are used pages, and RESET drops them. */
    private static void fullOfRecordsThatHoldAnErasedCell() {
        Bench token = new Bench();
        for (int user = 1; user <= 6; user++) {
            Checks.same("credential " + user, Wire.askPressed(token, Wire.make(1, "kn99cnbj", user)), 0);
            Wire.ask(token, Wire.INFO);
            Checks.same("info", Wire.answer(token), String.format("00 a3 01 %02x 02 f4 03 %02x", user, 7 - user));
        }
        Checks.same("full", Wire.askPressed(token, Wire.make(1, "kn99cnbj", 7)), 6);
        Checks.same("full for a PIN", Wire.ask(token, Wire.setPin("kn99cnbj")), 6);
        Checks.same("RESET", Wire.askPressed(token, Wire.RESET), 0);
        Checks.same("a write each", token.look(5), 42);
        Checks.same("the store", Wire.store(token), (Wire.BLANK + "|").repeat(7));
        Checks.same("the PIN -1", Wire.ask(token, Wire.setPin("kn99cnbj")), 0);
        Checks.same("RESET", Wire.askPressed(token, Wire.RESET), 0);
        Checks.same("the store", Wire.store(token), (Wire.BLANK + "|").repeat(7));
    }

    /** The number of a party may be 0 or -1, as what is read where no record is. */
    private static void noRecordIsNoCredential() {
        for (String text : new String[] {"ams0hyqf", "kn99cnbj"}) {
            Bench token = credentials(2);
            for (int name = 0; name <= 7; name++) {
                Checks.same("ASSERT", Wire.askPressed(token, Wire.signAllowed(text, 1, name)), 9);
            }
            Checks.same("ASSERT", Wire.ask(token, Wire.sign(text, 1)), 9);
            Checks.same("MAKE", Wire.ask(token, Wire.makeExcluding(1, text, 0, 0, 1, 2, 3, 4, 5, 6, 7)), 0);
            Checks.same("name 3", token.cell(2, 0), 3 + 16 * 3);
            Checks.same("MAKE again", Wire.askPressed(token, Wire.makeExcluding(1, text, 1, 0, 1, 2, 4, 5, 6, 7)), 0);
            Checks.same("excluded", Wire.askPressed(token, Wire.makeExcluding(1, text, 2, 3)), 8);
        }
    }

    // "NAME (0 the PIN, 1 .. 6 a credential)"
    private static void thePinIsNoCredential() {
        Bench token = new Bench();
        Wire.ask(token, Wire.setPin("1234"));
        Wire.ask(token, Wire.ticket("1234"));
        Checks.same("ASSERT with its number", Wire.askPressed(token, Wire.sign("1234", 1)), 9);
        Checks.same("and its name", Wire.ask(token, Wire.signAllowed("1234", 1, 0)), 9);
        String make = "01 a5 01 05 02 64 31 32 33 34 03 08 05 81 00 08 01";
        Checks.same("MAKE with its number, for user 8, its name excluded", Wire.ask(token, make), 0);
        Checks.same("name 1", Wire.answer(token), "00 a3 01 01 02 01 03 01");
        pages("beside it", token, Wire.record(0, 3, PIN_1234, 8, 0, 0), Wire.record(1, 4, PIN_1234, 8, 1, 0));
        Checks.same("again", Wire.askPressed(token, make), 0);
        Checks.same("it is replaced", Wire.answer(token), "00 a3 01 01 02 02 03 02");
        Checks.same("ASSERT", Wire.askPressed(token, Wire.sign("1234", 1)), 0);
        Checks.same("one credential", Wire.answer(token), "00 a6 01 01 02 02 03 03 04 01 05 01 06 08");

        Bench behind = new Bench();
        Wire.askPressed(behind, Wire.make(1, "1234", 8));
        Wire.ask(behind, Wire.setPin("1234"));
        Wire.ask(behind, Wire.ticket("1234"));
        Checks.same("the PIN on a page behind it", behind.cell(1, 0), 16 * 4);
        Checks.same("MAKE", Wire.askPressed(behind, make), 0);
        Checks.same("it is replaced", Wire.answer(behind), "00 a3 01 01 02 02 03 02");
    }
}
