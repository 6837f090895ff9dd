import java.util.Arrays;
import java.util.NoSuchElementException;

/** A key token with its store, a client, four parties that rely on it, and one in between. */
public final class KeyToken {
    private static final int DONE = 0;
    private static final int NO_COMMAND = 1;
    private static final int MALFORMED = 2;
    private static final int WRONG_TYPE = 3;
    private static final int MISSING = 4;
    private static final int NOT_ALLOWED = 5;
    private static final int FULL = 6;
    private static final int NOT_PRESSED = 7;
    private static final int EXCLUDED = 8;
    private static final int NO_CREDENTIALS = 9;
    private static final int PIN_WRONG = 10;
    private static final int PIN_BLOCKED = 11;
    private static final int POWER_MUST_GO = 12;
    private static final int NO_PIN = 13;
    private static final int TICKET_WANTED = 14;
    private static final int PIN_LENGTH = 15;
    private static final int POWER_WENT = -1;

    private static final int MAKE = 1;
    private static final int ASSERT = 2;
    private static final int INFO = 4;
    private static final int PIN = 6;
    private static final int RESET = 7;
    private static final int NEXT = 8;

    private static final int MAKE_CHALLENGE = 1;
    private static final int MAKE_PARTY = 2;
    private static final int MAKE_USER = 3;
    private static final int MAKE_EXCLUDED = 5;
    private static final int MAKE_TICKET = 8;
    private static final int ASSERT_PARTY = 1;
    private static final int ASSERT_CHALLENGE = 2;
    private static final int ASSERT_ALLOWED = 3;
    private static final int ASSERT_TICKET = 6;
    private static final int PIN_WHAT = 1;
    private static final int PIN_OLD = 2;
    private static final int PIN_NEW = 3;

    private static final int TELL_TRIES = 1;
    private static final int SET = 3;
    private static final int CHANGE = 4;
    private static final int TICKET = 5;

    private static final int NUMBER = 0;
    private static final int BYTES = 2;
    private static final int TEXT = 3;
    private static final int LIST = 4;
    private static final int MAP = 5;
    private static final int TRUTH = 7;
    private static final int FALSE = 20;
    private static final int TRUE = 21;

    private static final int TYPE_MADE = 1;
    private static final int TYPE_ASSERTED = 2;

    private static final int FIELD_TYPE = 1;
    private static final int FIELD_KEY = 2;
    private static final int FIELD_PARTY = 3;
    private static final int FIELD_CHALLENGE = 4;
    private static final int FIELD_COUNTER = 5;
    private static final int FIELD_VERIFIED = 6;

    private static final int OTHER_CHALLENGE = 2;
    private static final int OTHER_PARTY = 3;
    private static final int ALTERED = 6;
    private static final int COUNTER_NOT_GREATER = 7;
    private static final int KEY_REFUSED = 8;
    private static final int NO_REGISTRATION_LEFT = 9;

    private static final int MOST_NAME = 6;
    private static final int TEXT_NUMBER_START = 5;
    private static final int TEXT_NUMBER_FACTOR = 131;

    private static final int PARTIES = 4;
    private static final int MOST_USER = 99;
    private static final int MOST_BYTES_AT_ONCE = 8;
    private static final int CEREMONY_POWER_WENT = 99;
    private static final int CEREMONY_STATUS = 100;

    private final Token token;
    private final RelyingParty[] parties;
    private int challengesMade;

    public KeyToken() {
        token = new Token();
        parties = new RelyingParty[PARTIES];
        for (int i = 0; i < PARTIES; i++) {
            parties[i] = new RelyingParty(i);
        }
    }

    public boolean press() {
        if (!token.powered) {
            return false;
        }
        token.pressed = true;
        return true;
    }

    public void feed(long bytes, int n) throws IllegalStateException, IllegalArgumentException {
        if (!token.powered) {
            throw new IllegalStateException("no power");
        }
        if (n < 1 || n > MOST_BYTES_AT_ONCE || n > token.request.input.room()) {
            throw new IllegalArgumentException("not 1 to 8 bytes, or no room");
        }
        for (int i = n - 1; i >= 0; i--) {
            token.request.input.add((int) (bytes >> (8 * i)));
        }
    }

    public int send() throws IllegalStateException {
        if (!token.powered) {
            throw new IllegalStateException("no power");
        }
        return token.serve();
    }

    public int waiting() {
        return token.output.left();
    }

    public long take() throws NoSuchElementException {
        if (token.output.left() == 0) {
            throw new NoSuchElementException("no output is left");
        }
        long number = 0;
        for (int i = 0; i < MOST_BYTES_AT_ONCE && token.output.left() > 0; i++) {
            number = number << 8 | token.output.removeFirst();
        }
        return number;
    }

    public boolean power(boolean on) {
        if (token.powered == on) {
            return false;
        }
        if (on) {
            token.comeOn();
        } else {
            token.goOff();
        }
        return true;
    }

    public boolean cut(int k) {
        if (k < 0 || !token.powered) {
            return false;
        }
        token.store.writesUntilCut = k;
        return true;
    }

    public int open(int party, int user) throws IndexOutOfBoundsException {
        RelyingParty opening = partyAt(party);
        if (opening == null || user < 0 || user > MOST_USER) {
            throw new IndexOutOfBoundsException("no such party or user");
        }
        challengesMade++;
        opening.challenge = challengesMade;
        opening.challengeUser = user;
        return challengesMade;
    }

    public int ceremony(int party, int origin, boolean registers, int ticket)
            throws IndexOutOfBoundsException, IllegalStateException {
        RelyingParty asking = partyAt(party);
        if (asking == null || partyAt(origin) == null) {
            throw new IndexOutOfBoundsException("no such party or origin");
        }
        if (!token.powered || asking.challenge == 0) {
            throw new IllegalStateException("no power or no open challenge");
        }
        int bound = PARTIES * asking.challenge + origin;
        if (registers) {
            writeMake(token.request.input, bound, origin, asking.challengeUser, ticket);
        } else {
            writeAssert(token.request.input, bound, origin, ticket);
        }
        int status = token.serve();
        token.output.clear();
        if (status == POWER_WENT) {
            return CEREMONY_POWER_WENT;
        }
        if (status != DONE) {
            return CEREMONY_STATUS + status;
        }
        return judge(asking, token.signatures.made, 0, 0);
    }

    public int offer(int party, int signature, int what, int delta)
            throws IndexOutOfBoundsException, NoSuchElementException, IllegalStateException {
        RelyingParty judging = partyAt(party);
        if (judging == null || what < 0 || what > FIELD_COUNTER) {
            throw new IndexOutOfBoundsException("no such party or field");
        }
        if (!token.signatures.has(signature)) {
            throw new NoSuchElementException("no such signature");
        }
        if (judging.challenge == 0) {
            throw new IllegalStateException("no challenge is open");
        }
        return judge(judging, signature, what, delta);
    }

    public int signature(int number, int what) throws NoSuchElementException {
        if (!token.signatures.has(number) || what < FIELD_TYPE || what > FIELD_VERIFIED) {
            throw new NoSuchElementException("no such signature or field");
        }
        return token.signatures.field(number, what);
    }

    public int party(int party, int what) {
        RelyingParty asked = partyAt(party);
        return asked == null ? -1 : asked.tell(what);
    }

    public int cell(int page, int k) {
        return token.store.read(page, k);
    }

    public int look(int what) {
        switch (what) {
            case 0:
                return token.powered ? 1 : 0;
            case 1:
                return token.pressed ? 1 : 0;
            case 2:
                return token.wrong;
            case 3:
                return token.ticket;
            case 4:
                return token.nextEnd - token.nextAt;
            case 5:
                return token.store.writes;
            case 6:
                return token.request.input.left();
            case 7:
                return token.keysMade;
            case 8:
                return token.signatures.made;
            default:
                return -1;
        }
    }

    private RelyingParty partyAt(int number) {
        return number >= 0 && number < PARTIES ? parties[number] : null;
    }

    private static void writeMake(Bytes input, int challenge, int origin, int user, int ticket) {
        input.clear();
        input.add(MAKE);
        input.addHead(MAP, ticket > 0 ? 4 : 3);
        input.addPair(MAKE_CHALLENGE, challenge);
        writeOrigin(input, MAKE_PARTY, origin);
        input.addPair(MAKE_USER, user);
        if (ticket > 0) {
            input.addPair(MAKE_TICKET, ticket);
        }
    }

    private static void writeAssert(Bytes input, int challenge, int origin, int ticket) {
        input.clear();
        input.add(ASSERT);
        input.addHead(MAP, ticket > 0 ? 3 : 2);
        writeOrigin(input, ASSERT_PARTY, origin);
        input.addPair(ASSERT_CHALLENGE, challenge);
        if (ticket > 0) {
            input.addPair(ASSERT_TICKET, ticket);
        }
    }

    private static void writeOrigin(Bytes input, int key, int origin) {
        input.addHead(NUMBER, key);
        input.addHead(TEXT, 1);
        input.add('a' + origin);
    }

    private int judge(RelyingParty judging, int number, int what, int delta) {
        boolean altered = what != 0 && delta != 0;
        return judging.judge(
                alteredField(number, FIELD_TYPE, what, delta),
                alteredField(number, FIELD_KEY, what, delta),
                alteredField(number, FIELD_PARTY, what, delta),
                alteredField(number, FIELD_CHALLENGE, what, delta),
                alteredField(number, FIELD_COUNTER, what, delta),
                altered);
    }

    private int alteredField(int number, int field, int what, int delta) {
        int value = token.signatures.field(number, field);
        return field == what ? value + delta : value;
    }

    /** Bytes that are put behind one another and taken from the front. */
    private static final class Bytes {
        private final int[] cells;
        private int first;
        private int end;

        Bytes(int room) {
            cells = new int[room];
        }

        void clear() {
            first = 0;
            end = 0;
        }

        int left() {
            return end - first;
        }

        int room() {
            return cells.length - end;
        }

        int removeFirst() {
            if (first < 0 || first >= end) {
                return 0;
            }
            first++;
            return cells[first - 1];
        }

        void add(int value) {
            if (end >= 0 && end < cells.length) {
                cells[end] = value & 255;
                end++;
            }
        }

        void addHead(int major, int number) {
            int width = widthOf(number);
            add(32 * major + (width == 0 ? number : width == 1 ? 24 : width == 2 ? 25 : 26));
            for (int i = width - 1; i >= 0; i--) {
                add(number >> (8 * i));
            }
        }

        void addPair(int key, int number) {
            addHead(NUMBER, key);
            addHead(NUMBER, number);
        }

        /** How many bytes a number takes behind its item's first one. */
        static int widthOf(int number) {
            return number < 24 ? 0 : number < 256 ? 1 : number < 65536 ? 2 : 4;
        }
    }

    /** The input, and the request that is read from it. */
    private static final class Request {
        private static final int ROOM = 48;
        private static final int MOST_KEY = 8;
        private static final int MOST_INSIDE = 3;
        private static final int NONE = -1;
        private static final int BROKEN = -2;
        private static final int OTHER_LIST = 8;
        private static final int[] MAKE_KINDS = {NONE, NUMBER, TEXT, NUMBER, NONE, LIST, NONE, NONE, NUMBER};
        private static final int[] MAKE_WANTED = {MAKE_CHALLENGE, MAKE_PARTY, MAKE_USER};
        private static final int[] ASSERT_KINDS = {NONE, TEXT, NUMBER, LIST, NONE, NONE, NUMBER};
        private static final int[] ASSERT_WANTED = {ASSERT_PARTY, ASSERT_CHALLENGE};
        private static final int[] PIN_KINDS = {NONE, NUMBER, TEXT, TEXT};
        private static final int[] PIN_WANTED = {PIN_WHAT};

        private final Bytes input = new Bytes(ROOM);
        // Of the item under each key: its kind, its number (of a list: the names in it, a bit each), its end.
        private final int[] kinds = new int[MOST_KEY + 1];
        private final int[] numbers = new int[MOST_KEY + 1];
        private final int[] ends = new int[MOST_KEY + 1];
        private int at;
        private int major;
        private int number;

        int command() {
            return input.left() == 0 ? 0 : input.cells[0];
        }

        /** Whether the input is well formed behind its command; keeps its parameters. */
        boolean parse() {
            Arrays.fill(kinds, NONE);
            at = 1;
            return input.end <= 1 || readItem(0) == MAP && at == input.end;
        }

        /** Passes an item with so many lists and maps around it; answers its kind. */
        private int readItem(int around) {
            if (!readHead()) {
                return BROKEN;
            }
            if (major == BYTES || major == TEXT) {
                return passBytes() ? major : BROKEN;
            }
            if (major != LIST && major != MAP) {
                return major;
            }
            if (around >= MOST_INSIDE) {
                return BROKEN;
            }
            return major == LIST ? readList(number, around + 1) : readMap(number, around + 1);
        }

        private int readList(int count, int around) {
            int kind = LIST;
            int names = 0;
            for (int i = 0; i < count; i++) {
                int inner = readItem(around);
                if (inner == BROKEN) {
                    return BROKEN;
                }
                if (inner != NUMBER) {
                    kind = OTHER_LIST;
                } else if (number <= MOST_NAME) {
                    names |= 1 << number;
                }
            }
            number = names;
            return kind;
        }

        private int readMap(int count, int around) {
            int key = -1;
            for (int i = 0; i < count; i++) {
                if (!readHead() || major != NUMBER || number <= key) {
                    return BROKEN;
                }
                key = number;
                int kind = readItem(around);
                if (kind == BROKEN) {
                    return BROKEN;
                }
                if (around == 1 && key <= MOST_KEY) {
                    kinds[key] = kind;
                    numbers[key] = number;
                    ends[key] = at;
                }
            }
            return MAP;
        }

        private boolean readHead() {
            if (at < 0 || at >= input.end) {
                return false;
            }
            major = input.cells[at] >> 5;
            number = input.cells[at] & 31;
            at++;
            if (major == TRUTH) {
                return number == FALSE || number == TRUE;
            }
            if (major == 1 || major == 6) {
                return false;
            }
            return number < 24 || number <= 26 && readWide(1 << (number - 24));
        }

        private boolean readWide(int width) {
            if (width > input.end - at) {
                return false;
            }
            number = 0;
            for (int i = 0; i < width; i++) {
                number = number << 8 | input.cells[at];
                at++;
            }
            // From 2147483648 on it has wrapped to below 0, which is too small as well.
            return number >= (width == 1 ? 24 : width == 2 ? 256 : 65536);
        }

        private boolean passBytes() {
            if (number > input.end - at) {
                return false;
            }
            int start = at;
            at += number;
            for (int i = start; i < at && major == TEXT; i++) {
                if (input.cells[i] < 32 || input.cells[i] > 126) {
                    return false;
                }
            }
            return true;
        }

        int checkMake() {
            return check(MAKE_KINDS, MAKE_WANTED);
        }

        int checkAssert() {
            return check(ASSERT_KINDS, ASSERT_WANTED);
        }

        int checkPin() {
            int status = check(PIN_KINDS, PIN_WANTED);
            if (status != DONE) {
                return status;
            }
            int what = numberOf(PIN_WHAT);
            boolean lacksOld = (what == CHANGE || what == TICKET) && !has(PIN_OLD);
            boolean lacksNew = (what == SET || what == CHANGE) && !has(PIN_NEW);
            return lacksOld || lacksNew ? MISSING : DONE;
        }

        private int check(int[] due, int[] wanted) {
            for (int key = 1; key < due.length && key <= MOST_KEY; key++) {
                if (due[key] != NONE && has(key) && kinds[key] != due[key]) {
                    return WRONG_TYPE;
                }
            }
            for (int key : wanted) {
                if (!has(key)) {
                    return MISSING;
                }
            }
            return DONE;
        }

        boolean has(int key) {
            return key >= 0 && key <= MOST_KEY && kinds[key] != NONE;
        }

        int numberOf(int key) {
            return has(key) ? numbers[key] : 0;
        }

        boolean lists(int key, int name) {
            return (numberOf(key) >> name & 1) == 1;
        }

        boolean textHas(int key, int least, int most) {
            return numberOf(key) >= least && numberOf(key) <= most;
        }

        int textNumber(int key) {
            int end = has(key) ? ends[key] : 0;
            int x = TEXT_NUMBER_START;
            for (int i = Math.max(0, end - numberOf(key)); i < end && i < ROOM; i++) {
                x = x * TEXT_NUMBER_FACTOR + input.cells[i];
            }
            return x;
        }
    }

    /**
     * The pages. The first cell of a record, its label, is written first and is never -1: it tells whether
     * the page is erased. A cut leaves a torn page, or two records of one name, only where the power goes
     * too, and those are erased when it comes: with power, each page is erased or a record, and no name is
     * there twice. Serials grow, so labels are in the order of the serials.
     */
    private static final class Store {
        private static final int PAGES = 7;
        private static final int CELLS = 6;
        private static final int SEAL = 5;
        private static final int SEAL_START = 7;
        private static final int SEAL_FACTOR = 16777619;
        private static final int LOWEST_31_BITS = 0x7fffffff;
        private static final int ABOVE_ALL_LABELS = 0x7fffffff;
        private static final int ERASED = -1;
        private static final int NAMES = 16;
        private static final int NO_CUT = -1;

        private final int[] cells = new int[PAGES * CELLS];
        private int writes;
        private int writesUntilCut = NO_CUT;

        Store() {
            Arrays.fill(cells, ERASED);
        }

        int read(int page, int k) {
            return page >= 0 && page < PAGES && k >= 0 && k < CELLS ? cells[page * CELLS + k] : 0;
        }

        int pageOf(int name) {
            for (int page = 0; page < PAGES; page++) {
                int label = read(page, 0);
                if (label != ERASED && label % NAMES == name) {
                    return page;
                }
            }
            return -1;
        }

        boolean has(int name) {
            return pageOf(name) >= 0;
        }

        int erasedPages() {
            int count = 0;
            for (int page = 0; page < PAGES; page++) {
                count += read(page, 0) == ERASED ? 1 : 0;
            }
            return count;
        }

        /** The latest label below a limit; ERASED if there is none. */
        int labelBelow(int limit) {
            int latest = ERASED;
            for (int page = 0; page < PAGES; page++) {
                int label = read(page, 0);
                if (label < limit && label > latest) {
                    latest = label;
                }
            }
            return latest;
        }

        boolean hasRoomFor(int name) {
            return pageOf(name) >= 0 || erasedPages() >= 2;
        }

        /** Puts a record; false if the power goes before that is done. */
        boolean put(int name, int first, int second, int third, int fourth) {
            int old = pageOf(name);
            int page = firstErased();
            int serial = Math.max(0, labelBelow(ABOVE_ALL_LABELS)) / NAMES + 1;
            return write(page, 0, name + NAMES * serial)
                    && write(page, 1, first)
                    && write(page, 2, second)
                    && write(page, 3, third)
                    && write(page, 4, fourth)
                    && write(page, SEAL, sealOf(page))
                    && (old < 0 || erase(old));
        }

        /** Drops all records; false if the power goes before that is done. */
        boolean dropAll() {
            for (int page = 0; page < PAGES; page++) {
                if (read(page, 0) != ERASED && !erase(page)) {
                    return false;
                }
            }
            return true;
        }

        void lookThrough() {
            for (int page = 0; page < PAGES; page++) {
                if (read(page, 0) != ERASED && (!isSealed(page) || isOutdated(page))) {
                    erase(page);
                }
            }
        }

        private boolean isOutdated(int page) {
            int label = read(page, 0);
            for (int other = 0; other < PAGES; other++) {
                int rival = read(other, 0);
                if (isSealed(other) && rival % NAMES == label % NAMES && rival > label) {
                    return true;
                }
            }
            return false;
        }

        private boolean isSealed(int page) {
            return read(page, SEAL) == sealOf(page);
        }

        private int sealOf(int page) {
            int x = SEAL_START;
            for (int k = 0; k < SEAL; k++) {
                x = (x ^ read(page, k)) * SEAL_FACTOR + 1;
            }
            return x & LOWEST_31_BITS;
        }

        private int firstErased() {
            for (int page = 0; page < PAGES; page++) {
                if (read(page, 0) == ERASED) {
                    return page;
                }
            }
            return -1;
        }

        private boolean write(int page, int k, int value) {
            if (page < 0 || page >= PAGES || k < 0 || k >= CELLS || !spendWrite()) {
                return false;
            }
            cells[page * CELLS + k] = value;
            return true;
        }

        private boolean erase(int page) {
            if (page < 0 || page >= PAGES || !spendWrite()) {
                return false;
            }
            for (int k = 0; k < CELLS; k++) {
                cells[page * CELLS + k] = ERASED;
            }
            return true;
        }

        /** Counts one more write; false if the cut comes before it. */
        private boolean spendWrite() {
            if (writesUntilCut == 0) {
                return false;
            }
            if (writesUntilCut != NO_CUT) {
                writesUntilCut--;
            }
            writes++;
            return true;
        }
    }

    /** The latest signatures, each in the row of its number. */
    private static final class Signatures {
        private static final int KEPT = 40;

        private final int[] fields = new int[KEPT * FIELD_VERIFIED];
        private int made;

        boolean has(int number) {
            return number > 0 && number <= made && number > made - KEPT;
        }

        int field(int number, int what) {
            boolean there = has(number) && what >= FIELD_TYPE && what <= FIELD_VERIFIED;
            return there ? fields[number % KEPT * FIELD_VERIFIED + what - 1] : 0;
        }

        void make(int type, int key, int party, int challenge, int counter, boolean verified) {
            made++;
            int row = made % KEPT * FIELD_VERIFIED - 1;
            fields[row + FIELD_TYPE] = type;
            fields[row + FIELD_KEY] = key;
            fields[row + FIELD_PARTY] = party;
            fields[row + FIELD_CHALLENGE] = challenge;
            fields[row + FIELD_COUNTER] = counter;
            fields[row + FIELD_VERIFIED] = verified ? 1 : 0;
        }
    }

    /** The token: what it keeps without power is in its store, or counts what was ever made. */
    private static final class Token {
        private static final int OUTPUT_ROOM = 80;
        private static final int PIN_NAME = 0;
        private static final int LEAST_PIN = 4;
        private static final int MOST_PIN = 8;
        private static final int LEAST_PARTY = 1;
        private static final int MOST_PARTY = 8;
        private static final int MOST_TRIES = 8;
        private static final int MOST_WRONG = 3;
        private static final int DATA_PIN = 1;
        private static final int DATA_TRIES = 2;
        private static final int DATA_PARTY = 1;
        private static final int DATA_USER = 2;
        private static final int DATA_KEY = 3;
        private static final int DATA_COUNTER = 4;

        private final Store store = new Store();
        private final Signatures signatures = new Signatures();
        private final Request request = new Request();
        private final Bytes output = new Bytes(OUTPUT_ROOM);
        private final int[] nextNames = new int[MOST_NAME];
        private boolean powered = true;
        private boolean pressed;
        private int wrong;
        private int ticket;
        private int nextAt;
        private int nextEnd;
        private int nextChallenge;
        private boolean nextVerified;
        private int keysMade;
        private int ticketsMade;

        void comeOn() {
            powered = true;
            store.lookThrough();
        }

        void goOff() {
            powered = false;
            pressed = false;
            wrong = 0;
            ticket = 0;
            request.input.clear();
            output.clear();
            forgetNext();
            store.writesUntilCut = Store.NO_CUT;
        }

        /** Does the request in the input; answers its status, or that the power went. */
        int serve() {
            output.clear();
            int status = perform();
            request.input.clear();
            store.writesUntilCut = Store.NO_CUT;
            if (status == POWER_WENT) {
                goOff();
            } else if (status != DONE) {
                output.add(status);
            } else if (output.left() == 0) {
                beginAnswer(0);
            }
            return status;
        }

        private int perform() {
            int command = request.command();
            if (!isCommand(command)) {
                return NO_COMMAND;
            }
            if (!request.parse()) {
                return MALFORMED;
            }
            if (command == NEXT) {
                return signNext();
            }
            forgetNext();
            switch (command) {
                case MAKE:
                    return makeCredential();
                case ASSERT:
                    return signFirst();
                case INFO:
                    return tellInfo();
                case PIN:
                    return doPin();
                default:
                    return reset();
            }
        }

        private static boolean isCommand(int command) {
            return command == MAKE || command == ASSERT || command == INFO
                    || command == PIN || command == RESET || command == NEXT;
        }

        private int makeCredential() {
            int status = request.checkMake();
            if (status != DONE) {
                return status;
            }
            if (!request.textHas(MAKE_PARTY, LEAST_PARTY, MOST_PARTY)) {
                return NOT_ALLOWED;
            }
            boolean hasPin = store.has(PIN_NAME);
            if (hasPin && !isTicket(MAKE_TICKET)) {
                return TICKET_WANTED;
            }
            int party = request.textNumber(MAKE_PARTY);
            if (isExcluded(party)) {
                return EXCLUDED;
            }
            if (!usePress()) {
                return NOT_PRESSED;
            }
            int user = request.numberOf(MAKE_USER);
            int name = nameFor(party, user);
            if (name > MOST_NAME || !store.hasRoomFor(name)) {
                return FULL;
            }
            keysMade++;
            int key = keysMade;
            if (!store.put(name, party, user, key, 0)) {
                return POWER_WENT;
            }
            signatures.make(TYPE_MADE, key, party, request.numberOf(MAKE_CHALLENGE), 0, hasPin);
            beginAnswer(3);
            output.addPair(1, name);
            output.addPair(2, key);
            output.addPair(3, signatures.made);
            return DONE;
        }

        private boolean isTicket(int key) {
            return ticket != 0 && request.has(key) && request.numberOf(key) == ticket;
        }

        private boolean usePress() {
            boolean was = pressed;
            pressed = false;
            return was;
        }

        private boolean isExcluded(int party) {
            for (int name = 1; name <= MOST_NAME; name++) {
                if (isCredential(name, party) && request.lists(MAKE_EXCLUDED, name)) {
                    return true;
                }
            }
            return false;
        }

        private boolean isCredential(int name, int party) {
            int page = store.pageOf(name);
            return name != PIN_NAME && page >= 0 && store.read(page, DATA_PARTY) == party;
        }

        /** The name of the credential to replace, or the least free one; a greater one than any if none is. */
        private int nameFor(int party, int user) {
            int free = MOST_NAME + 1;
            for (int name = MOST_NAME; name > 0; name--) {
                int page = store.pageOf(name);
                if (page < 0) {
                    free = name;
                } else if (store.read(page, DATA_PARTY) == party && store.read(page, DATA_USER) == user) {
                    return name;
                }
            }
            return free;
        }

        private int signFirst() {
            int status = request.checkAssert();
            if (status != DONE) {
                return status;
            }
            if (!request.textHas(ASSERT_PARTY, LEAST_PARTY, MOST_PARTY)) {
                return NOT_ALLOWED;
            }
            boolean verified = request.has(ASSERT_TICKET);
            if (verified && !isTicket(ASSERT_TICKET)) {
                return TICKET_WANTED;
            }
            int count = findCredentials(request.textNumber(ASSERT_PARTY));
            if (count == 0) {
                return NO_CREDENTIALS;
            }
            if (!usePress()) {
                return NOT_PRESSED;
            }
            nextEnd = count;
            nextChallenge = request.numberOf(ASSERT_CHALLENGE);
            nextVerified = verified;
            return signWith(nextNames[0], count);
        }

        private int signNext() {
            if (nextAt < 0 || nextAt >= nextEnd || nextAt >= MOST_NAME) {
                return NOT_ALLOWED;
            }
            return signWith(nextNames[nextAt], 0);
        }

        /** Signs with the credential whose turn it is; a count of 0 is not told. */
        private int signWith(int name, int count) {
            nextAt++;
            int page = store.pageOf(name);
            int party = store.read(page, DATA_PARTY);
            int user = store.read(page, DATA_USER);
            int key = store.read(page, DATA_KEY);
            int counter = store.read(page, DATA_COUNTER) + 1;
            if (!store.put(name, party, user, key, counter)) {
                return POWER_WENT;
            }
            signatures.make(TYPE_ASSERTED, key, party, nextChallenge, counter, nextVerified);
            beginAnswer(count > 0 ? 6 : 5);
            output.addPair(1, name);
            output.addPair(2, key);
            output.addPair(3, signatures.made);
            output.addPair(4, counter);
            if (count > 0) {
                output.addPair(5, count);
            }
            output.addPair(6, user);
            return DONE;
        }

        private void forgetNext() {
            nextAt = 0;
            nextEnd = 0;
        }

        private int findCredentials(int party) {
            boolean listed = request.has(ASSERT_ALLOWED);
            int count = 0;
            int label = store.labelBelow(Store.ABOVE_ALL_LABELS);
            for (int i = 0; i < Store.PAGES && label != Store.ERASED && count < MOST_NAME; i++) {
                int name = label % Store.NAMES;
                if (isCredential(name, party) && (!listed || request.lists(ASSERT_ALLOWED, name))) {
                    nextNames[count] = name;
                    count++;
                }
                label = store.labelBelow(label);
            }
            return count;
        }

        private int tellInfo() {
            boolean hasPin = store.has(PIN_NAME);
            int erased = store.erasedPages();
            beginAnswer(3);
            output.addPair(1, Store.PAGES - erased - (hasPin ? 1 : 0));
            output.addHead(NUMBER, 2);
            output.addHead(TRUTH, hasPin ? TRUE : FALSE);
            output.addPair(3, erased);
            return DONE;
        }

        private int doPin() {
            int status = request.checkPin();
            if (status != DONE) {
                return status;
            }
            int what = request.numberOf(PIN_WHAT);
            switch (what) {
                case TELL_TRIES:
                    return tellTries();
                case SET:
                    return setPin();
                case CHANGE:
                case TICKET:
                    return provePin(what == CHANGE);
                default:
                    return NOT_ALLOWED;
            }
        }

        private int tellTries() {
            int page = store.pageOf(PIN_NAME);
            beginAnswer(1);
            output.addPair(1, page < 0 ? MOST_TRIES : store.read(page, DATA_TRIES));
            return DONE;
        }

        private int setPin() {
            if (store.has(PIN_NAME)) {
                return NOT_ALLOWED;
            }
            if (!request.textHas(PIN_NEW, LEAST_PIN, MOST_PIN)) {
                return PIN_LENGTH;
            }
            if (!store.hasRoomFor(PIN_NAME)) {
                return FULL;
            }
            if (!store.put(PIN_NAME, request.textNumber(PIN_NEW), MOST_TRIES, 0, 0)) {
                return POWER_WENT;
            }
            return DONE;
        }

        /** CHANGE and TICKET, which both ask for the PIN that is. */
        private int provePin(boolean changes) {
            int page = store.pageOf(PIN_NAME);
            if (page < 0) {
                return NO_PIN;
            }
            int pin = store.read(page, DATA_PIN);
            int tries = store.read(page, DATA_TRIES);
            if (tries == 0) {
                return PIN_BLOCKED;
            }
            if (wrong == MOST_WRONG) {
                return POWER_MUST_GO;
            }
            if (changes && !request.textHas(PIN_NEW, LEAST_PIN, MOST_PIN)) {
                return PIN_LENGTH;
            }
            // The try is paid for before the PIN is looked at, so that a cut of the power can't save it.
            if (!store.put(PIN_NAME, pin, tries - 1, 0, 0)) {
                return POWER_WENT;
            }
            if (request.textNumber(PIN_OLD) != pin) {
                return countWrong(tries - 1);
            }
            wrong = 0;
            int newPin = changes ? request.textNumber(PIN_NEW) : pin;
            if (!store.put(PIN_NAME, newPin, MOST_TRIES, 0, 0)) {
                return POWER_WENT;
            }
            if (changes) {
                ticket = 0;
                return DONE;
            }
            ticketsMade++;
            ticket = ticketsMade;
            beginAnswer(1);
            output.addPair(1, ticket);
            return DONE;
        }

        private int countWrong(int tries) {
            wrong++;
            ticket = 0;
            if (tries == 0) {
                return PIN_BLOCKED;
            }
            return wrong == MOST_WRONG ? POWER_MUST_GO : PIN_WRONG;
        }

        private int reset() {
            if (!usePress()) {
                return NOT_PRESSED;
            }
            if (!store.dropAll()) {
                return POWER_WENT;
            }
            ticket = 0;
            wrong = 0;
            return DONE;
        }

        private void beginAnswer(int pairs) {
            output.add(DONE);
            output.addHead(MAP, pairs);
        }
    }

    /** A party: its registrations and its open challenge (0: none). */
    private static final class RelyingParty {
        private static final int MOST_REGISTRATIONS = 6;

        private final int number;
        private final int[] keys = new int[MOST_REGISTRATIONS];
        private final int[] users = new int[MOST_REGISTRATIONS];
        private final int[] lasts = new int[MOST_REGISTRATIONS];
        private int registrations;
        private int challenge;
        private int challengeUser;

        RelyingParty(int number) {
            this.number = number;
        }

        int judge(int type, int key, int party, int signedChallenge, int counter, boolean altered) {
            if (signedChallenge != PARTIES * challenge + number) {
                return OTHER_CHALLENGE;
            }
            if (party != TEXT_NUMBER_START * TEXT_NUMBER_FACTOR + 'a' + number) {
                return OTHER_PARTY;
            }
            if (altered) {
                return ALTERED;
            }
            int verdict = type == TYPE_MADE ? register(key, counter) : accept(key, counter);
            if (verdict == DONE) {
                challenge = 0;
            }
            return verdict;
        }

        private int register(int key, int counter) {
            if (find(key) >= 0) {
                return KEY_REFUSED;
            }
            if (registrations >= MOST_REGISTRATIONS) {
                return NO_REGISTRATION_LEFT;
            }
            keys[registrations] = key;
            users[registrations] = challengeUser;
            lasts[registrations] = counter;
            registrations++;
            return DONE;
        }

        private int accept(int key, int counter) {
            int k = find(key);
            if (k < 0) {
                return KEY_REFUSED;
            }
            if (counter <= lasts[k]) {
                return COUNTER_NOT_GREATER;
            }
            lasts[k] = counter;
            return DONE;
        }

        private int find(int key) {
            for (int k = 0; k < registrations && k < MOST_REGISTRATIONS; k++) {
                if (keys[k] == key) {
                    return k;
                }
            }
            return -1;
        }

        int tell(int what) {
            if (what == 0) {
                return registrations;
            }
            if (what == 1) {
                return challenge;
            }
            int k = what % 10;
            if (k < 0 || k >= registrations) {
                return -1;
            }
            switch (what / 10) {
                case 1:
                    return keys[k];
                case 2:
                    return users[k];
                case 3:
                    return lasts[k];
                default:
                    return -1;
            }
        }
    }
}
