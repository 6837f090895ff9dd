import java.util.ArrayList;
import java.util.Arrays;
import java.util.List;

/**
 * A cut after 0, 1, 2, .. writes, up to one more than the request makes, for each request that writes, and the
 * power's coming after each. The writes of each request are told one by one, as the document has them.
 */
public final class CutEdgesTest {
    private static final int PIN_1234 = Wire.numberOfText("1234");
    private static final int PIN_5678 = Wire.numberOfText("5678");

    /** Writes: a page and, but for its being erased, a cell and what it gets. */
    private static final class Writes {
        final List<int[]> all = new ArrayList<>();

        Writes put(int page, int name, int serial, int... data) {
            int label = name + 16 * serial;
            int[] cells = {label, data[0], data[1], data[2], data[3],
                Wire.seal(label, data[0], data[1], data[2], data[3])};
            for (int k = 0; k < 6; k++) {
                all.add(new int[] {page, k, cells[k]});
            }
            return this;
        }

        Writes erase(int page) {
            all.add(new int[] {page});
            return this;
        }

        /** The store after the first so many of them. */
        int[][] after(int[][] before, int count) {
            int[][] pages = new int[7][];
            for (int page = 0; page < 7; page++) {
                pages[page] = before[page].clone();
            }
            for (int[] write : all.subList(0, count)) {
                if (write.length == 1) {
                    Arrays.fill(pages[write[0]], -1);
                } else {
                    pages[write[0]][write[1]] = write[2];
                }
            }
            return pages;
        }
    }

    private static final class Case {
        String name;
        Twins.Setup setup;
        Twins.Act act;
        int due;
        int gone = -1;
        int keys;
        int signatures;
        boolean ticket;
        Writes writes;
    }

    public static void main(String[] args) {
        for (Case c : cases()) {
            for (int k = 0; k <= c.writes.all.size() + 1; k++) {
                cutAfter(c, k);
            }
            cutAfter(c, Integer.MAX_VALUE);
        }
        isOverWhenTheRequestHasEnded();
        isOverWhenThePowerWent();
        isOverWithAnyRequest();
        isSetInPlaceOfAnother();
        isRefused();
        isNotSpentByOtherCalls();
        triesPaidAtEachWrite();
        tornAtEachFilling();
        numbersGoOnAfterACut();
        Checks.end("CutEdgesTest");
    }

    private static int[][] cells(Bench token) {
        int[][] pages = new int[7][6];
        for (int page = 0; page < 7; page++) {
            for (int k = 0; k < 6; k++) {
                pages[page][k] = token.cell(page, k);
            }
        }
        return pages;
    }

    private static void cutAfter(Case c, int k) {
        String what = c.name + ", cut after " + k;
        int most = c.writes.all.size();
        boolean goes = k < most;
        Bench token = c.setup.make();
        int[][] before = cells(token);
        int[] looks = new int[9];
        for (int i = 0; i < 9; i++) {
            looks[i] = token.look(i);
        }
        Checks.same(what + ", set", token.cut(k), true);
        Checks.same(what, c.act.on(token), goes ? c.gone : c.due);
        int[][] after = c.writes.after(before, Math.min(k, most));
        Checks.same(what + ", the store", Arrays.deepToString(cells(token)), Arrays.deepToString(after));
        Checks.same(what + ", the power", token.look(0), goes ? 0 : 1);
        Checks.same(what + ", writes", token.look(5), looks[5] + Math.min(k, most));
        Checks.same(what + ", the input", token.look(6), 0);
        Checks.same(what + ", keys", token.look(7), looks[7] + c.keys);
        Checks.same(what + ", signatures", token.look(8), looks[8] + (goes ? 0 : c.signatures));
        if (goes) {
            Checks.same(what + ", no answer", token.waiting(), 0);
            for (int i = 1; i <= 4; i++) {
                Checks.same(what + ", look " + i, token.look(i), 0);
            }
            powerComes(what, token, after);
        } else {
            Checks.same(what + ", a ticket", token.look(3) > looks[3], c.ticket);
            Checks.same(what + ", a cut no more", Wire.ask(token, Wire.INFO), 0);
        }
    }

    // "When the power comes, each page whose seal is not right and that is not erased, and, of records of one name, all
    // but the one with the greatest serial, are erased, one write each"
    private static void powerComes(String what, Bench token, int[][] pages) {
        int writes = token.look(5);
        int[][] due = new Writes().after(pages, 0);
        int erased = 0;
        for (int page = 0; page < 7; page++) {
            if (pages[page][0] != -1 && (!sealed(pages[page]) || outdated(pages, page))) {
                Arrays.fill(due[page], -1);
                erased++;
            }
        }
        Checks.same(what + ", one page at most", erased <= 1, true);
        Checks.same(what + ", the power comes", token.power(true), true);
        Checks.same(what + ", then the store", Arrays.deepToString(cells(token)), Arrays.deepToString(due));
        Checks.same(what + ", then writes", token.look(5), writes + erased);
        token.power(false);
        token.power(true);
        Checks.same(what + ", again", token.look(5), writes + erased);
    }

    private static boolean sealed(int[] p) {
        return p[5] == Wire.seal(p[0], p[1], p[2], p[3], p[4]);
    }

    private static boolean outdated(int[][] pages, int page) {
        for (int[] other : pages) {
            boolean sameName = other[0] != -1 && (other[0] - pages[page][0]) % 16 == 0;
            if (sameName && sealed(other) && other[0] > pages[page][0]) {
                return true;
            }
        }
        return false;
    }

    private static Case request(String name, Twins.Setup setup, String hex, int due, Writes writes) {
        Case c = new Case();
        c.name = name;
        c.setup = setup;
        c.act = t -> Wire.askPressed(t, hex);
        c.due = due;
        c.writes = writes;
        return c;
    }

    /** Three credentials of a, the second one signed: pages 0, 2 and 3 are used. */
    private static Bench three() {
        Bench token = new Bench();
        for (int user = 1; user <= 3; user++) {
            Wire.askPressed(token, Wire.make(1, "a", user));
        }
        Wire.askPressed(token, Wire.signAllowed("a", 1, 2));
        return token;
    }

    private static Bench threeToGoThrough() {
        Bench token = three();
        Wire.askPressed(token, Wire.sign("a", 9));
        return token;
    }

    private static Bench six() {
        Bench token = new Bench();
        for (int user = 1; user <= 6; user++) {
            Wire.askPressed(token, Wire.make(1, "a", user));
        }
        return token;
    }

    private static Bench withPin() {
        Bench token = new Bench();
        Wire.askPressed(token, Wire.make(1, "a", 1));
        Wire.ask(token, Wire.setPin("1234"));
        return token;
    }

    private static Bench opened() {
        Bench token = three();
        token.open(0, 7);
        token.feed(4, 1);
        return token;
    }

    private static List<Case> cases() {
        List<Case> cases = new ArrayList<>();
        Case make = request("MAKE", Bench::new, Wire.make(1, "a", 5), 0, new Writes().put(0, 1, 1, 752, 5, 1, 0));
        Case fourth = request("MAKE the fourth", CutEdgesTest::three, Wire.make(1, "b", 1), 0,
                new Writes().put(1, 4, 5, 753, 1, 4, 0));
        Case again = request("MAKE in place of one", CutEdgesTest::three, Wire.make(1, "a", 3), 0,
                new Writes().put(1, 3, 5, 752, 3, 4, 0).erase(2));
        Case full = request("MAKE in place of one, full", CutEdgesTest::six, Wire.make(1, "a", 3), 0,
                new Writes().put(6, 3, 7, 752, 3, 7, 0).erase(2));
        for (Case c : new Case[] {make, fourth, again, full}) {
            c.keys = 1;
            c.signatures = 1;
            cases.add(c);
        }
        Case sign = request("ASSERT", CutEdgesTest::three, Wire.sign("a", 1), 0,
                new Writes().put(1, 2, 5, 752, 2, 2, 2).erase(3));
        Case signFull = request("ASSERT, full", CutEdgesTest::six, Wire.signAllowed("a", 1, 1), 0,
                new Writes().put(6, 1, 7, 752, 1, 1, 1).erase(0));
        Case next = request("NEXT", CutEdgesTest::threeToGoThrough, Wire.NEXT, 0,
                new Writes().put(3, 3, 6, 752, 3, 3, 1).erase(2));
        for (Case c : new Case[] {sign, signFull, next}) {
            c.signatures = 1;
            cases.add(c);
        }
        addPinCases(cases);
        addCeremonies(cases);
        cases.add(request("RESET of none", Bench::new, Wire.RESET, 0, new Writes()));
        cases.add(request("RESET of three", CutEdgesTest::three, Wire.RESET, 0, new Writes().erase(0).erase(2).erase(3)));
        cases.add(request("RESET of six", CutEdgesTest::six, Wire.RESET, 0,
                new Writes().erase(0).erase(1).erase(2).erase(3).erase(4).erase(5)));
        cases.add(request("RESET of two", CutEdgesTest::withPin, Wire.RESET, 0, new Writes().erase(0).erase(1)));
        return cases;
    }

    private static void addPinCases(List<Case> cases) {
        cases.add(request("SET", Bench::new, Wire.setPin("1234"), 0, new Writes().put(0, 0, 1, PIN_1234, 8, 0, 0)));
        cases.add(request("SET, the fourth", CutEdgesTest::three, Wire.setPin("1234"), 0,
                new Writes().put(1, 0, 5, PIN_1234, 8, 0, 0)));
        Writes wrong = new Writes().put(2, 0, 3, PIN_1234, 7, 0, 0).erase(1);
        cases.add(request("TICKET wrong", CutEdgesTest::withPin, Wire.ticket("0000"), 10, wrong));
        cases.add(request("CHANGE wrong", CutEdgesTest::withPin, Wire.changePin("0000", "5678"), 10, wrong));
        Case ticket = request("TICKET", CutEdgesTest::withPin, Wire.ticket("1234"), 0,
                new Writes().put(2, 0, 3, PIN_1234, 7, 0, 0).erase(1).put(1, 0, 4, PIN_1234, 8, 0, 0).erase(2));
        ticket.ticket = true;
        cases.add(ticket);
        cases.add(request("CHANGE", CutEdgesTest::withPin, Wire.changePin("1234", "5678"), 0,
                new Writes().put(2, 0, 3, PIN_1234, 7, 0, 0).erase(1).put(1, 0, 4, PIN_5678, 8, 0, 0).erase(2)));
    }

    private static void addCeremonies(List<Case> cases) {
        Case registers = request("a ceremony that registers", CutEdgesTest::opened, "", 0,
                new Writes().put(1, 4, 5, 752, 7, 4, 0));
        registers.act = t -> pressed(t, true);
        registers.keys = 1;
        // The key of the latest credential is not registered.
        Case asserts = request("a ceremony that asserts", CutEdgesTest::opened, "", 8,
                new Writes().put(1, 2, 5, 752, 2, 2, 2).erase(3));
        asserts.act = t -> pressed(t, false);
        for (Case c : new Case[] {registers, asserts}) {
            c.gone = 99;
            c.signatures = 1;
            cases.add(c);
        }
    }

    private static Object pressed(Bench token, boolean registers) {
        token.press();
        int verdict = token.ceremony(0, 0, registers, 0);
        Checks.same("open after " + verdict, token.party(0, 1), verdict == 0 ? 0 : 1);
        Checks.same("registered after " + verdict, token.party(0, 0), verdict == 0 ? 1 : 0);
        return verdict;
    }

    // "A cut is over when the power went or the request has ended."
    private static void isOverWhenTheRequestHasEnded() {
        for (int k = 6; k <= 8; k++) {
            Bench token = new Bench();
            token.cut(k);
            Checks.same("SET with a cut after " + k, Wire.ask(token, Wire.setPin("1234")), 0);
            Checks.same("the next one is not cut", Wire.ask(token, Wire.ticket("1234")), 0);
            Checks.same("writes", token.look(5), 20);
        }
    }

    private static void isOverWhenThePowerWent() {
        for (int k = 0; k < 6; k++) {
            Bench token = new Bench();
            token.cut(k);
            Checks.same("cut after " + k, Wire.ask(token, Wire.setPin("1234")), -1);
            token.power(true);
            Checks.same("the next one is not cut", Wire.ask(token, Wire.setPin("1234")), 0);
        }
        Bench token = new Bench();
        token.cut(0);
        token.power(false);
        token.power(true);
        Checks.same("by the switch, too", Wire.ask(token, Wire.setPin("1234")), 0);
    }

    private static void isOverWithAnyRequest() {
        String[] requests = {"ff", "03 a0", "04", "04 a0 00", "01", "01 a1 01 60", Wire.make(1, "", 1), Wire.make(1, "a", 2),
            Wire.sign("a", 1), Wire.sign("b", 1), Wire.signWith("a", 1, 7), "08", "07", Wire.TRIES, Wire.setPin("1"),
            Wire.ticket("1234"), Wire.makeExcluding(1, "a", 2, 1), "06 a1 01 09"};
        int[] due = {1, 1, 0, 2, 4, 3, 5, 7, 7, 9, 14, 5, 7, 0, 15, 13, 8, 5};
        for (int i = 0; i < requests.length; i++) {
            Bench token = new Bench();
            Wire.askPressed(token, Wire.make(1, "a", 1));
            token.cut(0);
            Checks.same("the status", Wire.ask(token, requests[i]), due[i]);
            Checks.same("over with " + requests[i], Wire.ask(token, Wire.setPin("1234")), 0);
        }
        Bench token = new Bench();
        token.open(0, 1);
        token.cut(0);
        Checks.same("a ceremony", token.ceremony(0, 0, true, 0), 107);
        Checks.same("over with it", Wire.ask(token, Wire.setPin("1234")), 0);
    }

    // "Sets the cut of the next request to k writes, in place of one that is set"
    private static void isSetInPlaceOfAnother() {
        for (int first = 0; first <= 7; first++) {
            for (int second = 0; second <= 7; second++) {
                Bench token = new Bench();
                token.cut(first);
                Checks.same("again", token.cut(second), true);
                Checks.same("the later one counts", Wire.ask(token, Wire.setPin("1234")), second < 6 ? -1 : 0);
                Checks.same("writes", token.look(5), Math.min(second, 6));
            }
        }
    }

    // "false (refused) if k is less than 0 or there is no power"
    private static void isRefused() {
        int[] below = {-1, -2, Integer.MIN_VALUE};
        for (int k : below) {
            Bench token = new Bench();
            token.cut(3);
            Checks.same("cut " + k, token.cut(k), false);
            Checks.same("the one that is set stays", Wire.ask(token, Wire.setPin("1234")), -1);
            Checks.same("writes", token.look(5), 3);
            for (int without : new int[] {k, 0, 1, 7, Integer.MAX_VALUE}) {
                Checks.same("without power", token.cut(without), false);
            }
            token.power(true);
            Checks.same("none is set", Wire.ask(token, Wire.setPin("1234")), 0);
        }
    }

    private static void isNotSpentByOtherCalls() {
        Bench token = new Bench();
        token.cut(2);
        token.press();
        token.open(0, 1);
        token.look(5);
        token.waiting();
        token.power(true);
        token.party(0, 1);
        Checks.raises("no output", java.util.NoSuchElementException.class, token::take);
        Checks.raises("no byte", IllegalArgumentException.class, () -> token.feed(1, 0));
        Checks.raises("no party", IndexOutOfBoundsException.class, () -> token.ceremony(4, 0, true, 0));
        Checks.raises("no challenge", IllegalStateException.class, () -> token.ceremony(1, 0, true, 0));
        Checks.raises("no signature", java.util.NoSuchElementException.class, () -> token.offer(0, 1, 0, 0));
        Checks.same("still set", Wire.ask(token, Wire.make(1, "a", 1)), -1);
        Checks.same("writes", token.look(5), 2);
    }

    /** The try is paid with the first record: a cut before its seal saves it, one behind it does not. */
    private static void triesPaidAtEachWrite() {
        String[] requests = {Wire.ticket("1234"), Wire.changePin("1234", "5678"), Wire.ticket("0000")};
        for (String hex : requests) {
            boolean right = !hex.equals(requests[2]);
            for (int k = 0; k <= 15; k++) {
                Bench token = withPin();
                token.cut(k);
                Wire.ask(token, hex);
                if (token.look(0) == 0) {
                    token.power(true);
                }
                int due = k < 6 ? 8 : right && k >= 13 ? 8 : 7;
                Wire.ask(token, Wire.TRIES);
                Checks.same(hex + ", tries after a cut at " + k, Wire.answer(token), "00 a1 01 0" + due);
                boolean changed = hex.equals(requests[1]) && k >= 13;
                Checks.same("the PIN", Wire.ask(token, Wire.ticket("1234")), changed ? 10 : 0);
            }
        }
    }

    private static void tornAtEachFilling() {
        for (int used = 1; used <= 5; used++) {
            for (int k = 1; k <= 5; k++) {
                Bench token = new Bench();
                for (int user = 1; user <= used; user++) {
                    Wire.askPressed(token, Wire.make(1, "a", user));
                }
                token.cut(k);
                Checks.same("torn", Wire.askPressed(token, Wire.make(1, "b", 1)), -1);
                Checks.same("its first cell", token.cell(used, 0), used + 1 + 16 * (used + 1));
                token.power(true);
                Checks.same("erased", Wire.page(token, used), Wire.BLANK);
                Checks.same("made again", Wire.askPressed(token, Wire.make(1, "b", 1)), 0);
                Checks.same("the same name, serial and page", Wire.page(token, used),
                        Wire.record(used + 1, used + 1, 753, 1, used + 2, 0));
            }
        }
    }

    // "KEYS, TICKETS, SIGNATURES and CHALLENGES are numbered 1, 2, .. each, as they are made, and never again."
    private static void numbersGoOnAfterACut() {
        Bench token = new Bench();
        for (int made = 1; made <= 3; made++) {
            token.cut(made);
            Wire.askPressed(token, Wire.make(1, "a", 1));
            Checks.same("a key that no record has", token.look(7), made);
            token.power(true);
        }
        Wire.askPressed(token, Wire.make(1, "a", 1));
        Checks.same("key 4, signature 1", Wire.answer(token), "00 a3 01 01 02 04 03 01");
        token.cut(6);
        Wire.askPressed(token, Wire.sign("a", 1));
        token.power(true);
        Wire.askPressed(token, Wire.sign("a", 1));
        Checks.same("counter 2, signature 2", Wire.answer(token), "00 a6 01 01 02 04 03 02 04 02 05 01 06 01");
        token.cut(5);
        Wire.askPressed(token, Wire.sign("a", 1));
        token.power(true);
        Wire.askPressed(token, Wire.sign("a", 1));
        Checks.same("counter 3, signature 3", Wire.answer(token), "00 a6 01 01 02 04 03 03 04 03 05 01 06 01");
        Wire.ask(token, Wire.setPin("1234"));
        Wire.ask(token, Wire.ticket("1234"));
        token.cut(13);
        Wire.ask(token, Wire.ticket("1234"));
        token.power(true);
        Wire.ask(token, Wire.ticket("1234"));
        Checks.same("ticket 2", Wire.answer(token), "00 a1 01 02");
    }
}
