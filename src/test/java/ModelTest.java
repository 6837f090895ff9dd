import java.util.Random;
import java.util.TreeSet;
import java.util.function.Function;

/** Random runs of calls, each answered by the class as by the second reading of the document. */
public final class ModelTest {
    private static final int RUNS = 1500;
    private static final int CALLS = 300;
    private static final String[] PARTIES = {"a", "b", "c", "d", "a", "a", "b", "abcdefgh", "", "abcdefghi"};
    private static final String[] PINS = {"1234", "1234", "1234", "12345678", "0000", "123", "123456789", ""};

    private static final TreeSet<String> REACHED = new TreeSet<>();

    private final Random random;
    private final KeyToken real = new KeyToken();
    private final Model model = new Model();
    private final StringBuilder log = new StringBuilder();
    private final boolean likesPins;
    private final boolean likesParties;
    private String pin = "1234";
    private int opened;

    private ModelTest(long seed) {
        random = new Random(seed);
        likesPins = seed % 3 == 1;
        likesParties = seed % 3 == 2;
    }

    public static void main(String[] args) {
        for (int seed = 0; seed < RUNS; seed++) {
            String fault = new ModelTest(seed).run();
            Checks.same("run of seed " + seed, fault, null);
            if (fault != null) {
                break;
            }
        }
        for (int status = -1; status <= 15; status++) {
            Checks.same("the runs reach status " + status, REACHED.contains("send " + status), true);
        }
        for (int verdict : new int[] {0, 2, 3, 6, 7, 8, 9}) {
            Checks.same("the runs reach verdict " + verdict, REACHED.contains("offer " + verdict), true);
        }
        for (int verdict : new int[] {0, 2, 99, 106, 107, 109, 114}) {
            Checks.same("the runs reach ceremony " + verdict, REACHED.contains("ceremony " + verdict), true);
        }
        Checks.end("ModelTest");
    }

    private String run() {
        for (int i = 0; i < CALLS; i++) {
            String fault = step();
            if (fault != null) {
                return fault + "\n" + log;
            }
        }
        return null;
    }

    private String both(String what, Function<KeyToken, Object> onReal, Function<Model, Object> onModel) {
        Object got = outcome(() -> onReal.apply(real));
        Object due = outcome(() -> onModel.apply(model));
        log.append(what).append(" => ").append(due).append('\n');
        REACHED.add(what.substring(0, what.indexOf('(')) + " " + due);
        if (!got.equals(due)) {
            return what + " answered " + got + ", due is " + due;
        }
        return compareState();
    }

    private interface Supply {
        Object get();
    }

    private static Object outcome(Supply supply) {
        try {
            return supply.get();
        } catch (RuntimeException e) {
            return e.getClass().getName();
        }
    }

    private String compareState() {
        for (int what = -1; what < 10; what++) {
            if (real.look(what) != model.look(what)) {
                return "look " + what + " is " + real.look(what) + ", due is " + model.look(what);
            }
        }
        for (int page = -1; page < 8; page++) {
            for (int k = -1; k < 7; k++) {
                if (real.cell(page, k) != model.cell(page, k)) {
                    return "cell " + page + " " + k + " is " + real.cell(page, k) + ", due is " + model.cell(page, k);
                }
            }
        }
        for (int party = -1; party < 5; party++) {
            for (int what = -11; what < 45; what++) {
                if (real.party(party, what) != model.party(party, what)) {
                    return "party " + party + " " + what;
                }
            }
        }
        return real.waiting() == model.waiting() ? null : "waiting is " + real.waiting();
    }

    private int pick(int below) {
        return random.nextInt(below);
    }

    private String step() {
        if (likesPins && pick(3) == 0) {
            return ask(pinRequest());
        }
        if (likesParties && pick(3) == 0) {
            return register();
        }
        switch (pick(24)) {
            case 0:
            case 1:
            case 2:
            case 3:
                return both("press()", KeyToken::press, Model::press);
            case 4:
            case 5:
            case 6:
            case 7:
            case 8:
            case 9:
            case 10:
                return ask(request());
            case 11:
                return feedRaw();
            case 12:
                return both("take()", KeyToken::take, Model::take);
            case 13:
                int k = pick(18) - 1;
                return pick(3) > 0 ? null : both("cut(" + k + ")", t -> t.cut(k), m -> m.cut(k));
            case 14:
            case 15:
                boolean on = pick(6) > 0;
                return both("power(" + on + ")", t -> t.power(on), m -> m.power(on));
            case 16:
            case 17:
                return open(pick(20) == 0 ? 4 : pick(4), pick(20) == 0 ? 100 - 101 * pick(2) : pick(3));
            case 18:
            case 19:
            case 20:
                return ceremony();
            case 21:
            case 22:
                return offer();
            default:
                int n = real.look(8) - pick(44);
                int what = pick(8);
                return both("signature(" + n + ", " + what + ")", t -> t.signature(n, what), m -> m.signature(n, what));
        }
    }

    private String open(int p, int u) {
        if (p < 4 && u >= 0 && u < 100) {
            opened++;
        }
        return both("open(" + p + ", " + u + ")", t -> t.open(p, u), m -> m.open(p, u));
    }

    /** Signs for a challenge that is open or is to come, so that older counters can be offered for it. */
    private String register() {
        switch (pick(5)) {
            case 0:
                return open(0, pick(3));
            case 1:
                return both("press()", KeyToken::press, Model::press);
            case 2:
                return ask(Wire.sign("a", 4 * (opened + pick(3))));
            case 3:
                return ceremonyOf(0, 0, pick(2) == 0, someTicket());
            default:
                int n = real.look(8) - pick(6);
                return both("offer(0, " + n + ", 0, 0)", t -> t.offer(0, n, 0, 0), m -> m.offer(0, n, 0, 0));
        }
    }

    private String ceremony() {
        int p = pick(30) == 0 ? 4 - 5 * pick(2) : pick(2);
        int o = pick(30) == 0 ? 4 - 5 * pick(2) : pick(8) == 0 ? pick(4) : p;
        return ceremonyOf(p, o, pick(2) == 0, someTicket());
    }

    private String ceremonyOf(int p, int o, boolean registers, int ticket) {
        return both("ceremony(" + p + ", " + o + ", " + registers + ", " + ticket + ")",
                t -> t.ceremony(p, o, registers, ticket), m -> m.ceremony(p, o, registers, ticket));
    }

    private String offer() {
        int p = pick(30) == 0 ? 4 : pick(2);
        int n = real.look(8) - pick(pick(10) == 0 ? 44 : 4);
        int what = pick(3) == 0 ? pick(7) : 0;
        int delta = what == 4 && pick(2) == 0 && model.look(8) >= n && n > 0 && model.look(8) - n < 40
                ? 4 * model.party(p, 1) + p - model.signature(n, 4) : pick(4) - 1;
        return both("offer(" + p + ", " + n + ", " + what + ", " + delta + ")",
                t -> t.offer(p, n, what, delta), m -> m.offer(p, n, what, delta));
    }

    private String feedRaw() {
        long bytes = random.nextLong();
        int n = pick(11) - 1;
        String fault = both("feed(" + bytes + ", " + n + ")", t -> {
            t.feed(bytes, n);
            return 0;
        }, m -> {
            m.feed(bytes, n);
            return 0;
        });
        return fault != null || pick(4) > 0 ? fault : both("send()", KeyToken::send, Model::send);
    }

    private int someTicket() {
        return pick(4) == 0 ? pick(4) - 1 : real.look(3);
    }

    private String request() {
        String party = PARTIES[pick(PARTIES.length)];
        int challenge = pick(3) == 0 ? pick(3) * 70000 + pick(300) : 4 * Math.max(0, real.party(pick(4), 1)) + pick(4);
        switch (pick(12)) {
            case 0:
                return Wire.make(challenge, party, pick(3));
            case 1:
                return Wire.makeExcluding(challenge, party, pick(4) * 1000, pick(8), pick(8));
            case 2:
            case 3:
                return Wire.makeWith(challenge, party, pick(70000), Math.max(0, someTicket()));
            case 4:
                return Wire.sign(party, challenge);
            case 5:
                return Wire.signAllowed(party, challenge, pick(8), pick(8), pick(300));
            case 6:
                return Wire.signWith(party, challenge, Math.max(0, someTicket()));
            case 7:
            case 8:
                return Wire.NEXT;
            case 9:
                return pinRequest();
            case 10:
                return pick(12) == 0 ? Wire.RESET : Wire.NEXT;
            default:
                return damaged(pick(2) == 0 ? Wire.make(challenge, party, 1) : Wire.signAllowed(party, challenge, 1, 2));
        }
    }

    private String pinRequest() {
        String old = pick(4) > (likesPins ? 2 : 0) ? pin : PINS[pick(PINS.length)];
        String fresh = PINS[pick(PINS.length)];
        switch (pick(6)) {
            case 0:
                return Wire.TRIES;
            case 1:
            case 2:
                return Wire.setPin(fresh);
            case 3:
                pin = fresh;
                return Wire.changePin(old, fresh);
            case 4:
                return Wire.ticket(old);
            default:
                return pick(2) == 0 ? Wire.INFO : damaged(Wire.changePin(old, fresh));
        }
    }

    /** A request with a byte or two changed, left out or put in. */
    private String damaged(String hex) {
        StringBuilder digits = new StringBuilder(hex.replace(" ", ""));
        for (int i = 0; i <= pick(2); i++) {
            int at = 2 * (1 + pick(digits.length() / 2 - 1));
            String fresh = String.format("%02x", pick(3) == 0 ? pick(256) : 32 * pick(8) + pick(5));
            switch (pick(3)) {
                case 0:
                    digits.replace(at, at + 2, fresh);
                    break;
                case 1:
                    digits.insert(at, fresh);
                    break;
                default:
                    digits.delete(at, at + 2);
                    break;
            }
        }
        return digits.toString();
    }

    private String ask(String hex) {
        log.append("request ").append(hex).append('\n');
        for (byte b : Wire.bytes(hex)) {
            String fault = both("feed(" + b + ", 1)", t -> {
                t.feed(b, 1);
                return 0;
            }, m -> {
                m.feed(b, 1);
                return 0;
            });
            if (fault != null) {
                return fault;
            }
        }
        String fault = both("send()", KeyToken::send, Model::send);
        while (fault == null && real.waiting() > 0 && pick(4) > 0) {
            fault = both("take()", KeyToken::take, Model::take);
        }
        return fault;
    }
}
