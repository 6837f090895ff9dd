import java.util.Random;
import java.util.TreeSet;
import java.util.function.Function;

/**
 * Random runs of calls, each answered by the class as by the second reading of the document. An object has
 * 512 calls: most are the run's, with a look at something here and there, and the last ones look at all.
 */
public final class ModelTest {
    private static final int RUNS = 12000;
    private static final int LEFT_FOR_THE_LAST_LOOK = 230;
    private static final String[] PARTIES = {"a", "b", "c", "d", "a", "a", "b", "abcdefgh", "", "abcdefghi",
        "kn99cnbj", "ams0hyqf", "w8ozrvt7"};
    private static final String[] PINS = {"1234", "1234", "1234", "12345678", "0000", "123", "123456789", "", "kn99cnbj"};

    private static final TreeSet<String> REACHED = new TreeSet<>();

    private final Random random;
    private final Bench real = new Bench();
    private final Model model = new Model();
    private final StringBuilder log = new StringBuilder();
    private final boolean likesPins;
    private final boolean likesParties;
    private String pin = "1234";
    private int opened;

    private ModelTest(long seed) {
        random = new Random(seed);
        likesPins = seed % 3 == 1;
        likesParties = seed % 3 == 2;
    }

    public static void main(String[] args) {
        for (int seed = 0; seed < RUNS; seed++) {
            String fault = new ModelTest(seed).run();
            Checks.same("run of seed " + seed, fault, null);
            if (fault != null) {
                break;
            }
        }
        for (int status = -1; status <= 15; status++) {
            Checks.same("the runs reach status " + status, REACHED.contains("send " + status), true);
        }
        for (int verdict : new int[] {0, 2, 3, 6, 7, 8, 9}) {
            Checks.same("the runs reach verdict " + verdict, REACHED.contains("offer " + verdict), true);
        }
        for (int verdict : new int[] {0, 2, 99, 106, 107, 109, 114}) {
            Checks.same("the runs reach ceremony " + verdict, REACHED.contains("ceremony " + verdict), true);
        }
        Checks.end("ModelTest");
    }

    private String run() {
        int left = LEFT_FOR_THE_LAST_LOOK + pick(pick(4) == 0 ? 250 : 60);
        String fault = null;
        while (fault == null && real.callsLeft() > left) {
            fault = step();
        }
        fault = fault == null ? lookAtAll() : fault;
        return fault == null ? null : fault + "\n" + log;
    }

    private String both(String what, Function<Bench, Object> onReal, Function<Model, Object> onModel) {
        Object got = outcome(() -> onReal.apply(real));
        Object due = outcome(() -> onModel.apply(model));
        log.append(what).append(" => ").append(due).append('\n');
        REACHED.add(what.substring(0, what.indexOf('(')) + " " + due);
        if (!got.equals(due)) {
            return what + " answered " + got + ", due is " + due;
        }
        return pick(2) == 0 ? null : lookAtSomething();
    }

    private interface Supply {
        Object get();
    }

    private static Object outcome(Supply supply) {
        try {
            return supply.get();
        } catch (RuntimeException e) {
            return e.getClass().getName();
        }
    }

    private String lookAtSomething() {
        switch (pick(4)) {
            case 0:
                return looksAlike(pick(11) - 1);
            case 1:
                return cellsAlike(pick(9) - 1, pick(8) - 1);
            case 2:
                return partiesAlike(pick(6) - 1, pick(50) - 5);
            default:
                return same("waiting", real.waiting(), model.waiting());
        }
    }

    private static String same(String what, int got, int due) {
        return got == due ? null : what + " is " + got + ", due is " + due;
    }

    private String looksAlike(int what) {
        return same("look " + what, real.look(what), model.look(what));
    }

    private String cellsAlike(int page, int k) {
        return same("cell " + page + " " + k, real.cell(page, k), model.cell(page, k));
    }

    private String partiesAlike(int party, int what) {
        return same("party " + party + " " + what, real.party(party, what), model.party(party, what));
    }

    private String lookAtAll() {
        StringBuilder faults = new StringBuilder();
        for (int what = 0; what < 9; what++) {
            add(faults, looksAlike(what));
        }
        for (int page = 0; page < 7; page++) {
            for (int k = 0; k < 6; k++) {
                add(faults, cellsAlike(page, k));
            }
        }
        for (int party = 0; party < 4; party++) {
            add(faults, partiesAlike(party, 1));
            for (int k = 0; k <= Math.min(6, model.party(party, 0)); k++) {
                add(faults, partiesAlike(party, 10 + k));
                add(faults, partiesAlike(party, 20 + k));
                add(faults, partiesAlike(party, 30 + k));
            }
        }
        for (int number = model.look(8); number > Math.max(0, model.look(8) - 40); number--) {
            int what = 1 + pick(6);
            add(faults, same("signature " + number, real.signature(number, what), model.signature(number, what)));
        }
        while (model.waiting() > 0 && real.waiting() == model.waiting()) {
            add(faults, real.take() == model.take() ? null : "the output");
        }
        add(faults, same("waiting", real.waiting(), model.waiting()));
        return faults.length() == 0 ? null : faults.toString();
    }

    private static void add(StringBuilder faults, String fault) {
        if (fault != null) {
            faults.append(fault).append("; ");
        }
    }

    private int pick(int below) {
        return random.nextInt(below);
    }

    private String step() {
        if (likesPins && pick(3) > 0) {
            return model.look(0) == 0 || pick(6) == 0 ? switchPower(model.look(0) == 0) : ask(pinRequest());
        }
        if (likesParties && pick(4) > 0) {
            return register();
        }
        switch (pick(24)) {
            case 0:
            case 1:
            case 2:
            case 3:
                return both("press()", Bench::press, Model::press);
            case 4:
            case 5:
            case 6:
            case 7:
            case 8:
            case 9:
            case 10:
                return ask(request());
            case 11:
                return feedRaw();
            case 12:
                return both("take()", Bench::take, Model::take);
            case 13:
                int k = pick(18) - 1;
                return pick(3) > 0 ? null : both("cut(" + k + ")", t -> t.cut(k), m -> m.cut(k));
            case 14:
            case 15:
                return switchPower(pick(6) > 0);
            case 16:
            case 17:
                return open(pick(20) == 0 ? 4 : pick(4), pick(20) == 0 ? 100 - 101 * pick(2) : pick(3));
            case 18:
            case 19:
            case 20:
                return ceremony();
            case 21:
            case 22:
                return offer();
            default:
                int n = model.look(8) - pick(44);
                int what = pick(8);
                return both("signature(" + n + ", " + what + ")", t -> t.signature(n, what), m -> m.signature(n, what));
        }
    }

    private String switchPower(boolean on) {
        return both("power(" + on + ")", t -> t.power(on), m -> m.power(on));
    }

    private String open(int p, int u) {
        if (p < 4 && u >= 0 && u < 100) {
            opened++;
        }
        return both("open(" + p + ", " + u + ")", t -> t.open(p, u), m -> m.open(p, u));
    }

    /** Signs for a challenge that is open or is to come, so that older counters can be offered for it. */
    private String register() {
        switch (pick(5)) {
            case 0:
                return open(0, pick(4) == 0 ? pick(100) : pick(3));
            case 1:
                return both("press()", Bench::press, Model::press);
            case 2:
                return ask(Wire.sign("a", 4 * (opened + pick(3))));
            case 3:
                return ceremonyOf(0, 0, pick(2) == 0, someTicket());
            default:
                int n = model.look(8) - pick(6);
                return both("offer(0, " + n + ", 0, 0)", t -> t.offer(0, n, 0, 0), m -> m.offer(0, n, 0, 0));
        }
    }

    private String ceremony() {
        int p = pick(30) == 0 ? 4 - 5 * pick(2) : pick(2);
        int o = pick(30) == 0 ? 4 - 5 * pick(2) : pick(8) == 0 ? pick(4) : p;
        return ceremonyOf(p, o, pick(2) == 0, someTicket());
    }

    private String ceremonyOf(int p, int o, boolean registers, int ticket) {
        return both("ceremony(" + p + ", " + o + ", " + registers + ", " + ticket + ")",
                t -> t.ceremony(p, o, registers, ticket), m -> m.ceremony(p, o, registers, ticket));
    }

    private String offer() {
        int p = pick(30) == 0 ? 4 : pick(2);
        int n = model.look(8) - pick(pick(10) == 0 ? 44 : 4);
        int what = pick(3) == 0 ? pick(7) : 0;
        int delta = what == 4 && pick(2) == 0 && model.look(8) >= n && n > 0 && model.look(8) - n < 40
                ? 4 * model.party(p, 1) + p - model.signature(n, 4) : pick(4) - 1;
        return both("offer(" + p + ", " + n + ", " + what + ", " + delta + ")",
                t -> t.offer(p, n, what, delta), m -> m.offer(p, n, what, delta));
    }

    private String feedRaw() {
        long bytes = random.nextLong();
        int n = pick(11) - 1;
        String fault = feed(bytes, n);
        return fault != null || pick(4) > 0 ? fault : both("send()", Bench::send, Model::send);
    }

    private String feed(long bytes, int n) {
        return both("feed(" + bytes + ", " + n + ")", t -> {
            t.feed(bytes, n);
            return 0;
        }, m -> {
            m.feed(bytes, n);
            return 0;
        });
    }

    private int someTicket() {
        return pick(4) == 0 ? pick(4) - 1 : model.look(3);
    }

    private String request() {
        String party = PARTIES[pick(PARTIES.length)];
        int challenge = pick(3) == 0 ? pick(3) * 70000 + pick(300) : 4 * Math.max(0, model.party(pick(4), 1)) + pick(4);
        switch (pick(12)) {
            case 0:
                return Wire.make(challenge, party, pick(3));
            case 1:
                return Wire.makeExcluding(challenge, party, pick(4) * 1000, pick(8), pick(8));
            case 2:
            case 3:
                return Wire.makeWith(challenge, party, pick(70000), Math.max(0, someTicket()));
            case 4:
                return Wire.sign(party, challenge);
            case 5:
                return Wire.signAllowed(party, challenge, pick(8), pick(8), pick(300));
            case 6:
                return Wire.signWith(party, challenge, Math.max(0, someTicket()));
            case 7:
            case 8:
                return Wire.NEXT;
            case 9:
                return pinRequest();
            case 10:
                return pick(12) == 0 ? Wire.RESET : Wire.NEXT;
            default:
                return damaged(pick(2) == 0 ? Wire.make(challenge, party, 1) : Wire.signAllowed(party, challenge, 1, 2));
        }
    }

    private String pinRequest() {
        String old = pick(4) > (likesPins ? 2 : 0) ? pin : PINS[pick(PINS.length)];
        String fresh = PINS[pick(PINS.length)];
        switch (pick(6)) {
            case 0:
                return Wire.TRIES;
            case 1:
            case 2:
                return Wire.setPin(fresh);
            case 3:
                pin = fresh;
                return Wire.changePin(old, fresh);
            case 4:
                return Wire.ticket(old);
            default:
                return pick(2) == 0 ? Wire.INFO : damaged(Wire.changePin(old, fresh));
        }
    }

    /** A request with a byte or two changed, left out or put in. */
    private String damaged(String hex) {
        StringBuilder digits = new StringBuilder(hex.replace(" ", ""));
        for (int i = 0; i <= pick(2); i++) {
            int at = 2 * (1 + pick(digits.length() / 2 - 1));
            String fresh = String.format("%02x", pick(3) == 0 ? pick(256) : 32 * pick(8) + pick(5));
            switch (pick(3)) {
                case 0:
                    digits.replace(at, at + 2, fresh);
                    break;
                case 1:
                    digits.insert(at, fresh);
                    break;
                default:
                    digits.delete(at, at + 2);
                    break;
            }
        }
        return digits.toString();
    }

    private String ask(String hex) {
        log.append("request ").append(hex).append('\n');
        byte[] all = Wire.bytes(hex);
        for (int at = 0; at < all.length; at += 8) {
            int n = Math.min(8, all.length - at);
            long chunk = 0;
            for (int i = at; i < at + n; i++) {
                chunk = chunk << 8 | all[i] & 255;
            }
            String fault = feed(chunk, n);
            if (fault != null) {
                return fault;
            }
        }
        String fault = both("send()", Bench::send, Model::send);
        while (fault == null && model.waiting() > 0 && pick(4) > 0) {
            fault = both("take()", Bench::take, Model::take);
        }
        return fault;
    }
}
