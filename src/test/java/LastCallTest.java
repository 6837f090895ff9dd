import java.util.NoSuchElementException;

/** "An object is used for at most 512 calls after it has been made": the last of them answers as the first ones do. */
public final class LastCallTest {
    public static void main(String[] args) {
        callsOfOneKind();
        inputsOfFullLength();
        keysAndSignatures();
        counters();
        tickets();
        challenges();
        cuts();
        Checks.end("LastCallTest");
    }

    private static void last(String what, Bench token, Object due, Twins.Act act) {
        Checks.same(what + ", calls left", token.callsLeft(), 1);
        Checks.same(what, Twins.outcome(token, act), due);
    }

    private static void callsOfOneKind() {
        Bench opening = new Bench();
        for (int call = 1; call <= 512; call++) {
            Checks.same("open", opening.open(call % 4, call % 100), call);
        }
        Bench pressing = new Bench();
        Bench switching = new Bench();
        Bench cutting = new Bench();
        Bench sending = new Bench();
        for (int call = 1; call < 512; call++) {
            pressing.press();
            switching.power(call % 2 == 0);
            cutting.cut(call);
            sending.send();
        }
        last("press", pressing, true, Bench::press);
        last("power", switching, true, t -> t.power(true));
        last("cut", cutting, true, t -> t.cut(0));
        last("send", sending, 1, Bench::send);
    }

    private static void inputsOfFullLength() {
        Bench token = new Bench();
        for (int round = 0; round < 73; round++) {
            Wire.feed(token, "04 a1 01 78 2b" + "41".repeat(43));
            Checks.same("48 bytes", token.send(), 0);
        }
        last("the answer", token, 0x00a3010002f40307L, Bench::take);
    }

    /** 255 keys, by a client at another origin, so that the challenge stays open. */
    private static Bench withKeys() {
        Bench token = new Bench();
        token.open(0, 99);
        for (int key = 1; key <= 255; key++) {
            token.press();
            Checks.same("key " + key, token.ceremony(0, 1, true, 0), 2);
        }
        return token;
    }

    private static void keysAndSignatures() {
        last("keys", withKeys(), 255, t -> t.look(7));
        last("signatures", withKeys(), 255, t -> t.look(8));
        last("writes", withKeys(), 6 + 7 * 254, t -> t.look(5));
        last("the serial", withKeys(), 1 + 16 * 255, t -> t.cell(0, 0));
        last("its key", withKeys(), 255, t -> t.cell(0, 3));
        last("its seal", withKeys(), Wire.seal(1 + 16 * 255, 753, 99, 255, 0), t -> t.cell(0, 5));
        last("the page before", withKeys(), -1, t -> t.cell(1, 0));
        last("the latest signature", withKeys(), 255, t -> t.signature(255, 2));
        last("the 40th latest", withKeys(), 216, t -> t.signature(216, 2));
        last("the 41st latest", withKeys(), NoSuchElementException.class, t -> t.signature(215, 2));
        last("the challenge", withKeys(), 1, t -> t.party(0, 1));
        last("a judgement", withKeys(), 2, t -> t.offer(0, 255, 0, 0));
        last("an altered one", withKeys(), 3, t -> t.offer(0, 255, 4, -1));
    }

    private static Bench withCounters() {
        Bench token = new Bench();
        token.open(0, 99);
        for (int signature = 1; signature <= 255; signature++) {
            token.press();
            Checks.same("signature " + signature, token.ceremony(0, 1, signature == 1, 0), 2);
        }
        return token;
    }

    private static void counters() {
        last("the counter", withCounters(), 254, t -> t.cell(0, 4));
        last("that of a signature", withCounters(), 254, t -> t.signature(255, 5));
        last("its type", withCounters(), 2, t -> t.signature(255, 1));
        last("keys", withCounters(), 1, t -> t.look(7));
    }

    private static Bench withTickets() {
        Bench token = new Bench();
        Wire.ask(token, Wire.setPin("1234"));
        for (int ticket = 1; ticket <= 169; ticket++) {
            Checks.same("ticket " + ticket, Wire.ask(token, Wire.ticket("1234")), 0);
        }
        return token;
    }

    private static void tickets() {
        Bench asked = withTickets();
        Checks.same("its answer", asked.waiting(), 5);
        last("the ticket", asked, 0x00a10118a9L, Bench::take);
        Bench seen = withTickets();
        Checks.same("the ticket", seen.look(3), 169);
        last("writes", seen, 6 + 14 * 169, t -> t.look(5));
    }

    private static void challenges() {
        Bench token = new Bench();
        for (int number = 1; number <= 509; number++) {
            token.open(3, 7);
        }
        token.press();
        Checks.same("the 509th challenge", token.ceremony(3, 3, true, 0), 0);
        last("as it was bound", token, 4 * 509 + 3, t -> t.signature(1, 4));
    }

    /** A torn page each time, and its erasing: two writes of a page that is never whole. */
    private static void cuts() {
        Bench token = new Bench();
        token.open(2, 1);
        for (int round = 1; round <= 127; round++) {
            token.cut(1);
            token.press();
            Checks.same("cut " + round, token.ceremony(2, 2, true, 0), 99);
            token.power(true);
        }
        token.press();
        Checks.same("not cut", token.ceremony(2, 2, true, 0), 0);
        last("writes", token, 2 * 127 + 6, t -> t.look(5));
    }
}
