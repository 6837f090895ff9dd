/** The commands ASSERT and NEXT. */
public final class AssertTest {
    public static void main(String[] args) {
        checksParameters();
        takesTheLatestFirst();
        keepsToTheList();
        goesThroughTheOthers();
        goesThroughSix();
        forgetsNext();
        wantsARightTicket();
        looksInOrder();
        Checks.end("AssertTest");
    }

    private static Bench three() {
        Bench token = new Bench();
        Wire.askPressed(token, Wire.make(1, "a", 11));
        Wire.askPressed(token, Wire.make(1, "a", 12));
        Wire.askPressed(token, Wire.make(1, "b", 13));
        Wire.askPressed(token, Wire.make(1, "a", 14));
        return token;
    }

    private static void checksParameters() {
        Bench token = three();
        String[] wrongTypes = {"02 a2 01 05 02 05", "02 a2 01 41 61 02 05", "02 a2 01 61 61 02 61 61", "02 a2 01 61 61 02 f4",
            "02 a3 01 61 61 02 05 03 01", "02 a3 01 61 61 02 05 03 81 60", "02 a3 01 61 61 02 05 06 80", "02 a1 06 60"};
        for (String hex : wrongTypes) {
            Checks.same("wrong type " + hex, Wire.ask(token, hex), 3);
        }
        String[] missing = {"02", "02 a0", "02 a1 01 61 61", "02 a1 02 05", "02 a1 03 81 01"};
        for (String hex : missing) {
            Checks.same("missing " + hex, Wire.ask(token, hex), 4);
        }
        Checks.same("no text", Wire.ask(token, Wire.sign("", 1)), 5);
        Checks.same("nine characters", Wire.ask(token, Wire.sign("123456789", 1)), 5);
        Checks.same("eight characters", Wire.ask(token, Wire.sign("12345678", 1)), 9);
    }

    private static void takesTheLatestFirst() {
        Bench token = three();
        Checks.same("no credential", Wire.askPressed(token, Wire.sign("c", 1)), 9);
        Checks.same("pressed still", token.look(1), 1);
        Checks.same("assert", Wire.ask(token, Wire.sign("a", 1)), 0);
        Checks.same("the latest", Wire.answer(token), "00 a6 01 04 02 04 03 05 04 01 05 03 06 0e");
        Checks.same("its record is put", token.cell(4, 0), 4 + 16 * 5);
        Checks.same("its counter", token.cell(4, 4), 1);
        Checks.same("again", Wire.askPressed(token, Wire.sign("a", 1)), 0);
        Checks.same("it is the latest now", Wire.answer(token), "00 a6 01 04 02 04 03 06 04 02 05 03 06 0e");
        Wire.askPressed(token, Wire.signAllowed("a", 1, 1));
        Wire.askPressed(token, Wire.sign("a", 1));
        Checks.same("the one that was signed last", Wire.answer(token), "00 a6 01 01 02 01 03 08 04 02 05 03 06 0b");
        Checks.same("the other party's", Wire.askPressed(token, Wire.sign("b", 1)), 0);
        Checks.same("one", Wire.answer(token), "00 a6 01 03 02 03 03 09 04 01 05 01 06 0d");
    }

    private static void keepsToTheList() {
        Bench token = three();
        Checks.same("empty", Wire.askPressed(token, Wire.signAllowed("a", 1)), 9);
        Checks.same("another party's", Wire.ask(token, Wire.signAllowed("a", 1, 3)), 9);
        Checks.same("none", Wire.ask(token, Wire.signAllowed("a", 1, 0, 5, 6, 7, 33, 34, 70000)), 9);
        Checks.same("two, one twice", Wire.ask(token, Wire.signAllowed("a", 1, 1, 1, 3, 2)), 0);
        Checks.same("the latest of them", Wire.answer(token), "00 a6 01 02 02 02 03 05 04 01 05 02 06 0c");
        Checks.same("the other", Wire.ask(token, Wire.NEXT), 0);
        Checks.same("its answer", Wire.answer(token), "00 a5 01 01 02 01 03 06 04 01 06 0b");
        Checks.same("no more", Wire.ask(token, Wire.NEXT), 5);
    }

    private static void goesThroughSix() {
        Bench token = new Bench();
        for (int user = 1; user <= 6; user++) {
            Wire.askPressed(token, Wire.make(1, "a", user));
        }
        Checks.same("the sixth name in a list", Wire.askPressed(token, Wire.signAllowed("a", 1, 6)), 0);
        Checks.same("it alone", Wire.answer(token), "00 a6 01 06 02 06 03 07 04 01 05 01 06 06");
        Wire.askPressed(token, Wire.sign("a", 1));
        Checks.same("all six", Wire.answer(token), "00 a6 01 06 02 06 03 08 04 02 05 06 06 06");
        for (int name = 5; name >= 1; name--) {
            Checks.same("NEXT has " + name, token.look(4), name);
            Checks.same("NEXT", Wire.ask(token, Wire.NEXT), 0);
            Checks.same("its key", token.signature(token.look(8), 2), name);
        }
        Checks.same("no more", Wire.ask(token, Wire.NEXT), 5);
    }

    private static void goesThroughTheOthers() {
        Bench token = three();
        Checks.same("none at first", Wire.ask(token, Wire.NEXT), 5);
        Wire.askPressed(token, Wire.sign("a", 70000));
        Checks.same("two", token.look(4), 2);
        Checks.same("by falling serial", Wire.ask(token, Wire.NEXT), 0);
        Checks.same("its answer", Wire.answer(token), "00 a5 01 02 02 02 03 06 04 01 06 0c");
        Checks.same("the same challenge", token.signature(6, 4), 70000);
        Checks.same("type 2", token.signature(6, 1), 2);
        Checks.same("passing keys over", Wire.ask(token, "08 a1 01 f5"), 0);
        Checks.same("its answer", Wire.answer(token), "00 a5 01 01 02 01 03 07 04 01 06 0b");
        Checks.same("none left", Wire.ask(token, Wire.NEXT), 5);
        Wire.ask(token, Wire.setPin("1234"));
        Wire.ask(token, Wire.ticket("1234"));
        Wire.askPressed(token, Wire.signWith("a", 1, 1));
        Wire.ask(token, Wire.NEXT);
        Checks.same("verified as the first", token.signature(9, 6), 1);
        token.cut(6);
        Checks.same("cut", Wire.ask(token, Wire.NEXT), -1);
        Checks.same("no signature", token.look(8), 9);
        Checks.same("nothing to go through", token.look(4), 0);
    }

    private static void forgetsNext() {
        String[] leave = {"", "03", "ff a0", "08 ff", "01 ff", "02 a1", "04 a0 00"};
        for (String hex : leave) {
            Bench token = three();
            Wire.askPressed(token, Wire.sign("a", 1));
            Wire.ask(token, hex);
            Checks.same("left by " + hex, token.look(4), 2);
        }
        String[] forget = {Wire.INFO, "01", "02", "06", Wire.RESET, Wire.TRIES, Wire.sign("c", 1), Wire.sign("a", 1),
            Wire.make(1, "a", 1), Wire.ticket("1234"), Wire.setPin("1234"), "06 a1 01 02", Wire.sign("", 1)};
        for (String hex : forget) {
            Bench token = three();
            Wire.askPressed(token, Wire.sign("a", 1));
            Wire.ask(token, hex);
            Checks.same("forgotten by " + hex, token.look(4), 0);
            Checks.same("NEXT", Wire.ask(token, Wire.NEXT), 5);
        }
    }

    private static void wantsARightTicket() {
        Bench token = three();
        Checks.same("there is none", Wire.askPressed(token, Wire.signWith("a", 1, 0)), 14);
        Checks.same("nor 1", Wire.ask(token, Wire.signWith("a", 1, 1)), 14);
        Wire.ask(token, Wire.setPin("1234"));
        Wire.ask(token, Wire.ticket("1234"));
        Checks.same("another", Wire.ask(token, Wire.signWith("a", 1, 2)), 14);
        Checks.same("0", Wire.ask(token, Wire.signWith("a", 1, 0)), 14);
        Checks.same("pressed still", token.look(1), 1);
        Checks.same("the one", Wire.ask(token, Wire.signWith("a", 1, 1)), 0);
        Checks.same("verified", token.signature(5, 6), 1);
        Checks.same("none, with a PIN", Wire.askPressed(token, Wire.sign("a", 1)), 0);
        Checks.same("not verified", token.signature(6, 6), 0);
    }

    private static void looksInOrder() {
        Bench token = three();
        Checks.same("5 before 14", Wire.ask(token, Wire.signWith("", 1, 1)), 5);
        Checks.same("14 before 9", Wire.ask(token, Wire.signWith("c", 1, 1)), 14);
        Checks.same("9 before 7", Wire.ask(token, Wire.sign("c", 1)), 9);
        Checks.same("7", Wire.ask(token, Wire.sign("a", 1)), 7);
    }
}
