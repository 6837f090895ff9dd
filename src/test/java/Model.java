import java.util.ArrayDeque;
import java.util.ArrayList;
import java.util.Comparator;
import java.util.List;
import java.util.NoSuchElementException;
import java.util.TreeMap;

/**
 * A second reading of the document, with the Java library and none of the class's code, that random runs
 * compare the class with. It holds records as objects and pages as lists, parses messages to trees, and
 * ends a request by an exception where the power goes.
 */
final class Model {
    private static final class PowerGone extends RuntimeException {
    }

    private static final class Refused extends RuntimeException {
        final int status;

        Refused(int status) {
            this.status = status;
        }
    }

    private static final class Bad extends RuntimeException {
    }

    private static final class Raw {
    }

    private static final class Signature {
        final int[] fields;

        Signature(int... fields) {
            this.fields = fields;
        }
    }

    private static final class Registration {
        int key;
        int user;
        int last;
    }

    private static final class Site {
        final List<Registration> registrations = new ArrayList<>();
        int open;
        int user;
    }

    private static final class Found {
        final int page;
        final int name;
        final int serial;
        final int[] data;

        Found(int page, int[] cells) {
            this.page = page;
            name = cells[0] & 15;
            serial = cells[0] >>> 4;
            data = new int[] {cells[1], cells[2], cells[3], cells[4]};
        }
    }

    private final int[][] pages = new int[7][];
    private final List<Signature> signatures = new ArrayList<>();
    private final Site[] sites = {new Site(), new Site(), new Site(), new Site()};
    private final ArrayDeque<Integer> input = new ArrayDeque<>();
    private final ArrayDeque<Integer> output = new ArrayDeque<>();
    private final ArrayDeque<Integer> next = new ArrayDeque<>();
    private boolean power = true;
    private boolean pressed;
    private int wrong;
    private int ticket;
    private int nextChallenge;
    private int nextVerified;
    private int keys;
    private int tickets;
    private int challenges;
    private int writes;
    private Integer cut;
    private int requestWrites;

    Model() {
        for (int p = 0; p < 7; p++) {
            pages[p] = blank();
        }
    }

    boolean press() {
        if (power) {
            pressed = true;
        }
        return power;
    }

    void feed(long bytes, int n) {
        if (!power) {
            throw new IllegalStateException();
        }
        if (n < 1 || n > 8 || input.size() + n > 48) {
            throw new IllegalArgumentException();
        }
        byte[] all = java.nio.ByteBuffer.allocate(8).putLong(bytes).array();
        for (int i = 8 - n; i < 8; i++) {
            input.add(all[i] & 255);
        }
    }

    int send() {
        if (!power) {
            throw new IllegalStateException();
        }
        List<Integer> request = new ArrayList<>(input);
        input.clear();
        return request(request);
    }

    int waiting() {
        return output.size();
    }

    long take() {
        if (output.isEmpty()) {
            throw new NoSuchElementException();
        }
        java.math.BigInteger number = java.math.BigInteger.ZERO;
        for (int i = 0; i < 8 && !output.isEmpty(); i++) {
            number = number.shiftLeft(8).add(java.math.BigInteger.valueOf(output.poll()));
        }
        return number.longValue();
    }

    boolean power(boolean on) {
        if (power == on) {
            return false;
        }
        if (on) {
            power = true;
            repair();
        } else {
            dark();
        }
        return true;
    }

    boolean cut(int k) {
        if (k < 0 || !power) {
            return false;
        }
        cut = k;
        return true;
    }

    int open(int party, int user) {
        if (party < 0 || party > 3 || user < 0 || user > 99) {
            throw new IndexOutOfBoundsException();
        }
        sites[party].open = ++challenges;
        sites[party].user = user;
        return challenges;
    }

    int ceremony(int party, int origin, boolean registers, int withTicket) {
        if (party < 0 || party > 3 || origin < 0 || origin > 3) {
            throw new IndexOutOfBoundsException();
        }
        Site site = sites[party];
        if (!power || site.open == 0) {
            throw new IllegalStateException();
        }
        String text = "" + (char) ('a' + origin);
        TreeMap<Integer, Object> map = new TreeMap<>();
        map.put(registers ? 1 : 2, 4 * site.open + origin);
        map.put(registers ? 2 : 1, text);
        if (registers) {
            map.put(3, site.user);
        }
        if (withTicket > 0) {
            map.put(registers ? 8 : 6, withTicket);
        }
        List<Integer> request = new ArrayList<>();
        request.add(registers ? 1 : 2);
        encode(map, request);
        input.clear();
        int status = request(request);
        output.clear();
        if (status == -1) {
            return 99;
        }
        return status != 0 ? 100 + status : judge(party, signatures.get(signatures.size() - 1).fields.clone(), false);
    }

    int offer(int party, int number, int what, int delta) {
        if (party < 0 || party > 3 || what < 0 || what > 5) {
            throw new IndexOutOfBoundsException();
        }
        int[] fields = known(number).fields.clone();
        if (sites[party].open == 0) {
            throw new IllegalStateException();
        }
        if (what > 0) {
            fields[what - 1] += delta;
        }
        return judge(party, fields, what != 0 && delta != 0);
    }

    int signature(int number, int what) {
        Signature found = known(number);
        if (what < 1 || what > 6) {
            throw new NoSuchElementException();
        }
        return found.fields[what - 1];
    }

    int party(int party, int what) {
        if (party < 0 || party > 3 || what < 0) {
            return -1;
        }
        Site site = sites[party];
        if (what == 0) {
            return site.registrations.size();
        }
        if (what == 1) {
            return site.open;
        }
        for (int k = 0; k < site.registrations.size(); k++) {
            Registration r = site.registrations.get(k);
            if (what == 10 + k) {
                return r.key;
            }
            if (what == 20 + k) {
                return r.user;
            }
            if (what == 30 + k) {
                return r.last;
            }
        }
        return -1;
    }

    int cell(int page, int k) {
        return page < 0 || page > 6 || k < 0 || k > 5 ? 0 : pages[page][k];
    }

    int look(int what) {
        int[] all = {power ? 1 : 0, pressed ? 1 : 0, wrong, ticket, next.size(), writes, input.size(), keys, signatures.size()};
        return what < 0 || what >= all.length ? -1 : all[what];
    }

    private Signature known(int number) {
        if (number < 1 || number > signatures.size() || signatures.size() - number >= 40) {
            throw new NoSuchElementException();
        }
        return signatures.get(number - 1);
    }

    private int judge(int party, int[] f, boolean altered) {
        Site site = sites[party];
        if (f[3] != 4 * site.open + party) {
            return 2;
        }
        if (f[2] != hash("" + "abcd".charAt(party))) {
            return 3;
        }
        if (altered) {
            return 6;
        }
        Registration mine = null;
        for (Registration r : site.registrations) {
            if (r.key == f[1]) {
                mine = r;
            }
        }
        if (f[0] == 1) {
            if (mine != null) {
                return 8;
            }
            if (site.registrations.size() == 6) {
                return 9;
            }
            mine = new Registration();
            mine.key = f[1];
            mine.user = site.user;
            site.registrations.add(mine);
        } else {
            if (mine == null) {
                return 8;
            }
            if (f[4] <= mine.last) {
                return 7;
            }
        }
        mine.last = f[4];
        site.open = 0;
        return 0;
    }

    // ---- the store

    private static int[] blank() {
        return new int[] {-1, -1, -1, -1, -1, -1};
    }

    private static boolean isBlank(int[] page) {
        return java.util.Arrays.equals(page, blank());
    }

    private static int seal(int[] page) {
        long x = 7;
        for (int k = 0; k < 5; k++) {
            x = ((x ^ page[k]) * 16777619L + 1) & 0xffffffffL;
        }
        return (int) (x & 0x7fffffffL);
    }

    private List<Found> records() {
        List<Found> found = new ArrayList<>();
        for (int p = 0; p < 7; p++) {
            if (!isBlank(pages[p]) && pages[p][5] == seal(pages[p])) {
                found.add(new Found(p, pages[p]));
            }
        }
        return found;
    }

    private Found record(int name) {
        for (Found f : records()) {
            if (f.name == name) {
                return f;
            }
        }
        return null;
    }

    private int blanks() {
        int n = 0;
        for (int[] page : pages) {
            n += isBlank(page) ? 1 : 0;
        }
        return n;
    }

    private void writing() {
        if (cut != null && requestWrites == cut) {
            throw new PowerGone();
        }
        requestWrites++;
        writes++;
    }

    private void put(int name, int... data) {
        int serial = records().stream().mapToInt(f -> f.serial).max().orElse(0) + 1;
        Found old = record(name);
        int page = 0;
        while (!isBlank(pages[page])) {
            page++;
        }
        int[] cells = {name + 16 * serial, data[0], data[1], data[2], data[3], 0};
        cells[5] = seal(cells);
        for (int k = 0; k < 6; k++) {
            writing();
            pages[page][k] = cells[k];
        }
        if (old != null) {
            erase(old.page);
        }
    }

    private void erase(int page) {
        writing();
        pages[page] = blank();
    }

    private void repair() {
        List<Integer> doomed = new ArrayList<>();
        List<Found> all = records();
        for (int p = 0; p < 7; p++) {
            int page = p;
            boolean keeps = isBlank(pages[p]);
            for (Found f : all) {
                if (f.page == page && all.stream().noneMatch(o -> o.name == f.name && o.serial > f.serial)) {
                    keeps = true;
                }
            }
            if (!keeps) {
                doomed.add(p);
            }
        }
        doomed.forEach(this::erase);
    }

    private void dark() {
        power = false;
        pressed = false;
        wrong = 0;
        ticket = 0;
        next.clear();
        input.clear();
        output.clear();
        cut = null;
    }

    // ---- messages

    private static int hash(String text) {
        int x = 5;
        for (char c : text.toCharArray()) {
            x = x * 131 + c;
        }
        return x;
    }

    private static void encode(Object item, List<Integer> to) {
        if (item instanceof Integer n) {
            head(0, n, to);
        } else if (item instanceof Boolean b) {
            to.add(b ? 0xf5 : 0xf4);
        } else if (item instanceof String s) {
            head(3, s.length(), to);
            s.chars().forEach(to::add);
        } else if (item instanceof TreeMap<?, ?> map) {
            head(5, map.size(), to);
            map.forEach((k, v) -> {
                encode(k, to);
                encode(v, to);
            });
        }
    }

    private static void head(int major, int n, List<Integer> to) {
        int lead = major << 5;
        if (n <= 23) {
            to.add(lead | n);
        } else if (n <= 0xff) {
            to.add(lead | 24);
            to.add(n);
        } else if (n <= 0xffff) {
            to.add(lead | 25);
            to.add(n >>> 8);
            to.add(n & 255);
        } else {
            to.add(lead | 26);
            to.add(n >>> 24);
            to.add(n >>> 16 & 255);
            to.add(n >>> 8 & 255);
            to.add(n & 255);
        }
    }

    private static int next(ArrayDeque<Integer> from) {
        Integer b = from.poll();
        if (b == null) {
            throw new Bad();
        }
        return b;
    }

    private static Object decode(ArrayDeque<Integer> from, int level) {
        int lead = next(from);
        int major = lead / 32;
        int m = lead % 32;
        if (major == 7 && (m == 20 || m == 21)) {
            return m == 21;
        }
        if (major == 1 || major >= 6 || m > 26) {
            throw new Bad();
        }
        long n = m;
        if (m >= 24) {
            n = 0;
            for (int i = 0; i < (m == 24 ? 1 : m == 25 ? 2 : 4); i++) {
                n = n * 256 + next(from);
            }
            if (n < (m == 24 ? 24 : m == 25 ? 256 : 65536) || n >= 2147483648L) {
                throw new Bad();
            }
        }
        if (major == 0) {
            return (int) n;
        }
        if (major <= 3) {
            StringBuilder text = new StringBuilder();
            for (long i = 0; i < n; i++) {
                int c = next(from);
                if (major == 3 && (c < 32 || c > 126)) {
                    throw new Bad();
                }
                text.append((char) c);
            }
            return major == 3 ? text.toString() : new Raw();
        }
        if (level == 3) {
            throw new Bad();
        }
        List<Object> list = new ArrayList<>();
        TreeMap<Integer, Object> map = new TreeMap<>();
        for (long i = 0; i < n; i++) {
            if (major == 4) {
                list.add(decode(from, level + 1));
            } else {
                Object key = decode(from, 3);
                if (!(key instanceof Integer k) || !map.isEmpty() && map.lastKey() >= k) {
                    throw new Bad();
                }
                map.put(k, decode(from, level + 1));
            }
        }
        return major == 4 ? list : map;
    }

    // ---- requests

    private int request(List<Integer> bytes) {
        output.clear();
        requestWrites = 0;
        int status;
        TreeMap<Integer, Object> answer = new TreeMap<>();
        try {
            answer = command(bytes);
            status = 0;
        } catch (Refused r) {
            status = r.status;
        } catch (PowerGone p) {
            dark();
            return -1;
        }
        cut = null;
        output.add(status);
        if (status == 0) {
            List<Integer> tail = new ArrayList<>();
            encode(answer, tail);
            output.addAll(tail);
        }
        return status;
    }

    private TreeMap<Integer, Object> command(List<Integer> bytes) {
        if (bytes.isEmpty() || !List.of(1, 2, 4, 6, 7, 8).contains(bytes.get(0))) {
            throw new Refused(1);
        }
        TreeMap<Integer, Object> in = new TreeMap<>();
        if (bytes.size() > 1) {
            ArrayDeque<Integer> rest = new ArrayDeque<>(bytes.subList(1, bytes.size()));
            Object item;
            try {
                item = decode(rest, 0);
            } catch (Bad b) {
                throw new Refused(2);
            }
            if (!(item instanceof TreeMap<?, ?>) || !rest.isEmpty()) {
                throw new Refused(2);
            }
            ((TreeMap<?, ?>) item).forEach((k, v) -> in.put((Integer) k, v));
        }
        int command = bytes.get(0);
        if (command == 8) {
            if (next.isEmpty()) {
                throw new Refused(5);
            }
            return sign(next.poll());
        }
        next.clear();
        return switch (command) {
            case 1 -> make(in);
            case 2 -> assertion(in);
            case 4 -> info();
            case 6 -> pin(in);
            default -> reset();
        };
    }

    /** A type is n, t or l behind its key; with ! it is wanted. */
    private static void parameters(TreeMap<Integer, Object> in, String... due) {
        for (String d : due) {
            Object item = in.get(d.charAt(0) - '0');
            boolean fits = switch (d.charAt(1)) {
                case 'n' -> item instanceof Integer;
                case 't' -> item instanceof String;
                default -> item instanceof List<?> l && l.stream().allMatch(x -> x instanceof Integer);
            };
            if (item != null && !fits) {
                throw new Refused(3);
            }
        }
        for (String d : due) {
            if (d.endsWith("!") && !in.containsKey(d.charAt(0) - '0')) {
                throw new Refused(4);
            }
        }
    }

    private void touch() {
        if (!pressed) {
            throw new Refused(7);
        }
        pressed = false;
    }

    private TreeMap<Integer, Object> make(TreeMap<Integer, Object> in) {
        parameters(in, "1n!", "2t!", "3n!", "5l", "8n");
        String text = (String) in.get(2);
        if (text.isEmpty() || text.length() > 8) {
            throw new Refused(5);
        }
        boolean pin = record(0) != null;
        if (pin && (ticket == 0 || !Integer.valueOf(ticket).equals(in.get(8)))) {
            throw new Refused(14);
        }
        int party = hash(text);
        int user = (Integer) in.get(3);
        List<?> excluded = in.containsKey(5) ? (List<?>) in.get(5) : List.of();
        for (Found f : records()) {
            if (f.name > 0 && f.data[0] == party && excluded.contains(f.name)) {
                throw new Refused(8);
            }
        }
        touch();
        int name = 0;
        for (Found f : records()) {
            if (f.name > 0 && f.data[0] == party && f.data[1] == user) {
                name = f.name;
            }
        }
        for (int n = 1; n <= 6 && name == 0; n++) {
            name = record(n) == null ? n : 0;
        }
        if (name == 0 || record(name) == null && blanks() < 2) {
            throw new Refused(6);
        }
        int key = ++keys;
        put(name, party, user, key, 0);
        signatures.add(new Signature(1, key, party, (Integer) in.get(1), 0, pin ? 1 : 0));
        TreeMap<Integer, Object> out = new TreeMap<>();
        out.put(1, name);
        out.put(2, key);
        out.put(3, signatures.size());
        return out;
    }

    private TreeMap<Integer, Object> assertion(TreeMap<Integer, Object> in) {
        parameters(in, "1t!", "2n!", "3l", "6n");
        String text = (String) in.get(1);
        if (text.isEmpty() || text.length() > 8) {
            throw new Refused(5);
        }
        if (in.containsKey(6) && (ticket == 0 || (Integer) in.get(6) != ticket)) {
            throw new Refused(14);
        }
        List<Found> chosen = new ArrayList<>(records());
        chosen.removeIf(f -> f.name == 0 || f.data[0] != hash(text)
                || in.containsKey(3) && !((List<?>) in.get(3)).contains(f.name));
        chosen.sort(Comparator.comparingInt((Found f) -> f.serial).reversed());
        if (chosen.isEmpty()) {
            throw new Refused(9);
        }
        touch();
        for (Found f : chosen.subList(1, chosen.size())) {
            next.add(f.name);
        }
        nextChallenge = (Integer) in.get(2);
        nextVerified = in.containsKey(6) ? 1 : 0;
        TreeMap<Integer, Object> out = sign(chosen.get(0).name);
        out.put(5, chosen.size());
        return out;
    }

    private TreeMap<Integer, Object> sign(int name) {
        int[] data = record(name).data.clone();
        data[3]++;
        put(name, data);
        signatures.add(new Signature(2, data[2], data[0], nextChallenge, data[3], nextVerified));
        TreeMap<Integer, Object> out = new TreeMap<>();
        out.put(1, name);
        out.put(2, data[2]);
        out.put(3, signatures.size());
        out.put(4, data[3]);
        out.put(6, data[1]);
        return out;
    }

    private TreeMap<Integer, Object> info() {
        TreeMap<Integer, Object> out = new TreeMap<>();
        out.put(1, (int) records().stream().filter(f -> f.name > 0).count());
        out.put(2, record(0) != null);
        out.put(3, blanks());
        return out;
    }

    private TreeMap<Integer, Object> pin(TreeMap<Integer, Object> in) {
        parameters(in, "1n!", "2t", "3t");
        int what = (Integer) in.get(1);
        if ((what == 4 || what == 5) && !in.containsKey(2) || (what == 3 || what == 4) && !in.containsKey(3)) {
            throw new Refused(4);
        }
        TreeMap<Integer, Object> out = new TreeMap<>();
        Found pin = record(0);
        String fresh = (String) in.get(3);
        boolean fits = fresh != null && fresh.length() >= 4 && fresh.length() <= 8;
        if (what == 1) {
            out.put(1, pin == null ? 8 : pin.data[1]);
        } else if (what == 3) {
            if (pin != null) {
                throw new Refused(5);
            }
            if (!fits) {
                throw new Refused(15);
            }
            if (blanks() < 2) {
                throw new Refused(6);
            }
            put(0, hash(fresh), 8, 0, 0);
        } else if (what == 4 || what == 5) {
            if (pin == null) {
                throw new Refused(13);
            }
            if (pin.data[1] == 0) {
                throw new Refused(11);
            }
            if (wrong == 3) {
                throw new Refused(12);
            }
            if (what == 4 && !fits) {
                throw new Refused(15);
            }
            put(0, pin.data[0], pin.data[1] - 1, 0, 0);
            if (hash((String) in.get(2)) != pin.data[0]) {
                wrong++;
                ticket = 0;
                throw new Refused(record(0).data[1] == 0 ? 11 : wrong == 3 ? 12 : 10);
            }
            wrong = 0;
            put(0, what == 4 ? hash(fresh) : pin.data[0], 8, 0, 0);
            ticket = what == 4 ? 0 : ++tickets;
            if (what == 5) {
                out.put(1, ticket);
            }
        } else {
            throw new Refused(5);
        }
        return out;
    }

    private TreeMap<Integer, Object> reset() {
        touch();
        for (Found f : records()) {
            erase(f.page);
        }
        ticket = 0;
        wrong = 0;
        return new TreeMap<>();
    }
}
