import java.util.NoSuchElementException;

/** Each sentence of PARTIES at its boundaries, by ceremony and by offer. A comment before a test quotes the sentence. */
public final class PartyEdgesTest {
    public static void main(String[] args) {
        textsOfTheParties();
        challengesBesideTheOpenOne();
        challengesThatWereOpen();
        partiesBesideTheRightOne();
        alteredFields();
        alteredToTheRightOne();
        alteredBeyondAnInt();
        everyVerdictBeforeTheNext();
        theLastRegistrationAndOneMore();
        registrationsOfEachParty();
        countersAndLast();
        keysThatAreNotRegistered();
        verdictsThatKeepItOpen();
        originsOfAClient();
        usersOfAChallenge();
        theFortiethLatestSignature();
        Checks.end("PartyEdgesTest");
    }

    private static String text(int party) {
        return "abcd".substring(party, party + 1);
    }

    private static int offerMade(Bench token, int party, int challenge, String text) {
        Wire.askPressed(token, Wire.make(challenge, text, 5));
        return token.offer(party, token.look(8), 0, 0);
    }

    // "PARTIES 0 .. 3 have the texts a, b, c, d."
    private static void textsOfTheParties() {
        for (int party = 0; party <= 3; party++) {
            for (int other = 0; other <= 4; other++) {
                Bench token = new Bench();
                token.open(party, 1);
                String text = "abcde".substring(other, other + 1);
                Checks.same(text + " at " + party, offerMade(token, party, 4 + party, text), other == party ? 0 : 3);
            }
            Bench token = new Bench();
            token.open(party, 1);
            Checks.same("two characters", offerMade(token, party, 4 + party, text(party) + text(party)), 3);
            Checks.same("a great letter", offerMade(token, party, 4 + party, text(party).toUpperCase()), 3);
        }
        Bench token = new Bench();
        token.open(0, 1);
        Checks.same("another text with the number of a", offerMade(token, 0, 4, "w8ozrvt7"), 0);
    }

    // "2 its challenge is not 4 * the open one + the party's number"
    private static void challengesBesideTheOpenOne() {
        for (int party = 0; party <= 3; party++) {
            for (int opened = 1; opened <= 3; opened++) {
                int right = 4 * opened + party;
                int[] others = {right - 4, right - 1, right + 1, right + 4, opened, 0, 65536 + right, 2147483647};
                Bench token = new Bench();
                for (int i = 0; i < opened; i++) {
                    token.open(party, 1);
                }
                for (int other : others) {
                    Checks.same("challenge " + other + ", due is " + right, offerMade(token, party, other, text(party)), 2);
                }
                Checks.same("challenge " + right, offerMade(token, party, right, text(party)), 0);
            }
        }
    }

    private static void challengesThatWereOpen() {
        Bench token = new Bench();
        token.open(0, 1);
        Wire.askPressed(token, Wire.make(4, "a", 1));
        token.open(0, 1);
        Checks.same("in place of it another is open", token.offer(0, 1, 0, 0), 2);
        token.open(1, 1);
        Checks.same("another party's opening is no matter", token.party(0, 1), 2);
        Wire.askPressed(token, Wire.make(8, "a", 1));
        Checks.same("the open one", token.offer(0, 2, 0, 0), 0);
        Checks.raises("it is not open any more", IllegalStateException.class, () -> token.offer(0, 2, 0, 0));
        token.open(0, 1);
        Checks.same("nor ever again", token.offer(0, 2, 0, 0), 2);
    }

    // "3 its party is not the number of the party's text"
    private static void partiesBesideTheRightOne() {
        String[] texts = {"b", "`", " ", "~", "aa", "a ", "abcdefgh"};
        for (String text : texts) {
            Bench token = new Bench();
            token.open(0, 1);
            Checks.same("text " + text, offerMade(token, 0, 4, text), 3);
        }
    }

    private static Bench offered() {
        Bench token = new Bench();
        token.open(1, 5);
        Wire.askPressed(token, Wire.make(5, "b", 5));
        return token;
    }

    private static final int[] DELTAS = {1, -1, 2, -2, 4, 255, 65536, Integer.MAX_VALUE, -Integer.MAX_VALUE, Integer.MIN_VALUE};

    // "6 a field was altered" and "altered if both are not 0"
    private static void alteredFields() {
        int[] due = {0, 6, 6, 3, 2, 6};
        for (int what = 0; what <= 5; what++) {
            for (int delta : DELTAS) {
                Bench token = offered();
                Checks.same("field " + what + " by " + delta, token.offer(1, 1, what, delta), due[what]);
                Checks.same("registered", token.party(1, 0), what == 0 ? 1 : 0);
                Checks.same("open", token.party(1, 1), what == 0 ? 0 : 1);
            }
            Checks.same("field " + what + " by 0", offered().offer(1, 1, what, 0), 0);
        }
        for (int what = 1; what <= 5; what++) {
            Bench token = offered();
            token.offer(1, 1, what, 1);
            int[] fields = {1, 1, 753, 5, 0, 0};
            for (int i = 1; i <= 6; i++) {
                Checks.same("the signature stays, field " + i, token.signature(1, i), fields[i - 1]);
            }
            Checks.same("and is taken as it is", token.offer(1, 1, 0, 0), 0);
        }
    }

    private static void alteredToTheRightOne() {
        for (int beside = -3; beside <= 3; beside++) {
            Bench token = new Bench();
            token.open(1, 5);
            Wire.askPressed(token, Wire.make(5 + beside, "b", 5));
            Checks.same("challenge by " + beside, token.offer(1, 1, 4, -beside), beside == 0 ? 0 : 6);
        }
        for (int other = 0; other <= 3; other++) {
            Bench token = new Bench();
            token.open(1, 5);
            Wire.askPressed(token, Wire.make(5, text(other), 5));
            Checks.same("party from " + text(other), token.offer(1, 1, 3, 1 - other), other == 1 ? 0 : 6);
        }
        Bench token = new Bench();
        token.open(1, 5);
        Wire.askPressed(token, Wire.make(2147483647, "b", 5));
        Checks.same("from the greatest challenge", token.offer(1, 1, 4, 5 - 2147483647), 6);
        Checks.same("one too few", token.offer(1, 1, 4, 6 - 2147483647), 2);
        Checks.same("one too many", token.offer(1, 1, 4, 4 - 2147483647), 2);
    }

    /** Fields are ints, and adding to one wraps around as ints do. */
    private static void alteredBeyondAnInt() {
        Bench token = new Bench();
        token.open(0, 5);
        Wire.askPressed(token, Wire.make(4, "plhk2up9", 5));
        Checks.same("the least number of a text", token.signature(1, 3), Integer.MIN_VALUE);
        Checks.same("wraps to that of a", token.offer(0, 1, 3, 752 + Integer.MIN_VALUE), 6);
        Checks.same("beside it", token.offer(0, 1, 3, 753 + Integer.MIN_VALUE), 3);
        Wire.askPressed(token, Wire.make(2147483647, "a", 5));
        Checks.same("a challenge beyond the greatest", token.offer(0, 2, 4, 1), 2);
        Checks.same("far beyond it", token.offer(0, 2, 4, Integer.MAX_VALUE), 2);
    }

    private static final int CHALLENGE = 1;
    private static final int PARTY = 2;
    private static final int ALTERED = 4;
    private static final int UNKNOWN = 8;
    private static final int ASSERTS = 16;

    /** A party with six registrations judges signatures with every choice of faults: the first one is the verdict. */
    private static void everyVerdictBeforeTheNext() {
        for (int faults = 0; faults < 32; faults++) {
            Bench token = new Bench();
            for (int user = 1; user <= 6; user++) {
                token.open(0, user);
                token.press();
                token.ceremony(0, 0, true, 0);
            }
            token.open(0, 7);
            signWithFaults(token, faults);
            boolean altered = (faults & ALTERED) != 0;
            boolean unknown = (faults & UNKNOWN) != 0;
            int type = (faults & ASSERTS) == 0 ? 9 : unknown ? 8 : 0;
            int due = (faults & CHALLENGE) != 0 ? 2 : (faults & PARTY) != 0 ? 3 : altered ? 6 : type;
            Checks.same("faults " + faults, token.offer(0, token.look(8), altered ? 5 : 0, 1), due);
            Checks.same("open", token.party(0, 1), due == 0 ? 0 : 7);
        }
    }

    private static void signWithFaults(Bench token, int faults) {
        int challenge = 4 * 7 + ((faults & CHALLENGE) != 0 ? 1 : 0);
        boolean asserts = (faults & ASSERTS) != 0;
        if (asserts && (faults & (PARTY | UNKNOWN)) == 0) {
            Wire.askPressed(token, Wire.signAllowed("a", challenge, 6));
            return;
        }
        String text = (faults & PARTY) != 0 ? "b" : "a";
        Wire.askPressed(token, Wire.RESET);
        Wire.askPressed(token, Wire.make(challenge, text, 6));
        if (asserts) {
            Wire.askPressed(token, Wire.sign(text, challenge));
        }
    }

    // "A party has at most 6 REGISTRATIONS" and "9 six are"
    private static void theLastRegistrationAndOneMore() {
        for (int count = 0; count <= 7; count++) {
            Bench token = new Bench();
            for (int i = 1; i <= count; i++) {
                token.open(2, 10 + i);
                Wire.askPressed(token, Wire.make(4 * i + 2, "c", 1));
                Checks.same("registration " + i, token.offer(2, i, 0, 0), i <= 6 ? 0 : 9);
                Checks.same("open", token.party(2, 1), i <= 6 ? 0 : i);
            }
            int there = Math.min(count, 6);
            Checks.same("registrations", token.party(2, 0), there);
            for (int k = 0; k <= 9; k++) {
                Checks.same("key " + k + " of " + count, token.party(2, 10 + k), k < there ? k + 1 : -1);
                Checks.same("user " + k + " of " + count, token.party(2, 20 + k), k < there ? 11 + k : -1);
                Checks.same("LAST " + k + " of " + count, token.party(2, 30 + k), k < there ? 0 : -1);
            }
        }
        Bench token = new Bench();
        for (int i = 1; i <= 6; i++) {
            token.open(2, i);
            token.press();
            token.ceremony(2, 2, true, 0);
        }
        token.open(2, 6);
        token.press();
        Checks.same("by a ceremony, too", token.ceremony(2, 2, true, 0), 9);
        Checks.same("the token has made it", token.look(7), 7);
        token.press();
        Checks.same("its key is not registered", token.ceremony(2, 2, false, 0), 8);
        Checks.same("the fifth is", Wire.askPressed(token, Wire.signAllowed("c", 4 * 7 + 2, 5)), 0);
        Checks.same("and is accepted", token.offer(2, token.look(8), 0, 0), 0);
    }

    private static void registrationsOfEachParty() {
        Bench token = new Bench();
        for (int party = 0; party <= 3; party++) {
            token.open(party, party);
            token.press();
            Checks.same("register at " + party, token.ceremony(party, party, true, 0), 0);
            for (int other = 0; other <= 3; other++) {
                Checks.same("registrations of " + other, token.party(other, 0), other <= party ? 1 : 0);
            }
        }
    }

    // "7 its counter is not greater than LAST; else 0, LAST is its counter"
    private static void countersAndLast() {
        for (int first = 1; first <= 4; first++) {
            for (int second = 1; second <= 4; second++) {
                if (second == first) {
                    continue;
                }
                Bench token = new Bench();
                token.open(0, 1);
                token.press();
                token.ceremony(0, 0, true, 0);
                // The signature with counter c is number c + 1; the challenges 2 and 3 are open when it is offered.
                for (int counter = 1; counter <= 4; counter++) {
                    Wire.askPressed(token, Wire.sign("a", counter == first ? 8 : 12));
                }
                token.open(0, 1);
                Checks.same("counter " + first, token.offer(0, first + 1, 0, 0), 0);
                Checks.same("LAST", token.party(0, 30), first);
                token.open(0, 1);
                boolean greater = second > first;
                Checks.same("then " + second, token.offer(0, second + 1, 0, 0), greater ? 0 : 7);
                Checks.same("LAST", token.party(0, 30), greater ? second : first);
                Checks.same("open", token.party(0, 1), greater ? 0 : 3);
            }
        }
    }

    // "type 2: 8 the key is not registered"
    private static void keysThatAreNotRegistered() {
        Bench token = new Bench();
        token.open(0, 1);
        token.press();
        token.ceremony(0, 0, true, 0);
        Wire.askPressed(token, Wire.make(1, "a", 2));
        token.open(0, 1);
        Wire.askPressed(token, Wire.signAllowed("a", 8, 2));
        Checks.same("the second key", token.offer(0, 3, 0, 0), 8);
        Checks.same("made into the first", token.offer(0, 3, 2, -1), 6);
        Wire.askPressed(token, Wire.signAllowed("a", 8, 1));
        Checks.same("the first key", token.offer(0, 4, 0, 0), 0);
        Checks.same("LAST", token.party(0, 30), 1);
        Bench none = new Bench();
        none.open(0, 1);
        Wire.askPressed(none, Wire.make(1, "a", 2));
        Wire.askPressed(none, Wire.sign("a", 4));
        Checks.same("no registration at all", none.offer(0, 2, 0, 0), 8);
        Checks.same("none", none.party(0, 0), 0);
    }

    // "With verdict 0 the challenge is not open any more."
    private static void verdictsThatKeepItOpen() {
        Bench token = new Bench();
        token.open(0, 1);
        token.press();
        Checks.same("2", token.ceremony(0, 1, true, 0), 2);
        Checks.same("107", token.ceremony(0, 0, true, 0), 107);
        Checks.same("109", token.ceremony(0, 0, false, 0), 109);
        token.cut(0);
        token.press();
        Checks.same("99", token.ceremony(0, 0, true, 0), 99);
        token.power(true);
        Checks.same("still open", token.party(0, 1), 1);
        token.press();
        Checks.same("0", token.ceremony(0, 0, true, 0), 0);
        Checks.same("not any more", token.party(0, 1), 0);
        Checks.raises("none", IllegalStateException.class, () -> token.ceremony(0, 0, true, 0));
    }

    // "CLIENT at an ORIGIN (0 .. 3): a challenge c becomes 4 * c + origin, and the token is asked under the origin's text."
    private static void originsOfAClient() {
        for (int party = 0; party <= 3; party++) {
            for (int origin = 0; origin <= 3; origin++) {
                Bench token = new Bench();
                token.open(party, 9);
                token.open(party, 10);
                token.press();
                Checks.same(origin + " for " + party, token.ceremony(party, origin, true, 0), origin == party ? 0 : 2);
                Checks.same("its challenge", token.signature(1, 4), 8 + origin);
                Checks.same("its party", token.signature(1, 3), 752 + origin);
                Checks.same("the user", token.cell(0, 2), 10);
                token.open(party, 11);
                token.press();
                Checks.same("ASSERT", token.ceremony(party, origin, false, 0), origin == party ? 0 : 2);
                Checks.same("its challenge", token.signature(2, 4), 12 + origin);
                Checks.same("its type", token.signature(2, 1), 2);
            }
        }
        // Challenges whose numbers take more bytes.
        Bench token = new Bench();
        for (int c = 1; c <= 70; c++) {
            token.open(3, 99);
            token.press();
            int verdict = token.ceremony(3, 3, c == 1, 0);
            Checks.same("challenge " + c, verdict, 0);
            Checks.same("bound", token.signature(c, 4), 4 * c + 3);
        }
    }

    // "A party opens a challenge for a user (0 .. 99)"
    private static void usersOfAChallenge() {
        for (int user : new int[] {0, 1, 23, 24, 98, 99}) {
            Bench token = new Bench();
            Checks.same("open for " + user, token.open(3, user), 1);
            token.press();
            Checks.same("register", token.ceremony(3, 3, true, 0), 0);
            Checks.same("the party's", token.party(3, 20), user);
            Checks.same("the token's", token.cell(0, 2), user);
        }
        for (int user : new int[] {-1, 100, -2147483648, 2147483647}) {
            Bench token = new Bench();
            Checks.raises("open for " + user, IndexOutOfBoundsException.class, () -> token.open(3, user));
            Checks.same("none is open", token.party(3, 1), 0);
            Checks.same("the next number", token.open(3, 0), 1);
        }
    }

    // "it is not one of the 40 latest"
    private static void theFortiethLatestSignature() {
        for (int count : new int[] {1, 2, 39, 40, 41, 42, 79, 80, 81, 82}) {
            Bench token = new Bench();
            token.open(0, 1);
            for (int i = 1; i <= count; i++) {
                Wire.askPressed(token, Wire.make(4, "a", 1));
            }
            int oldest = Math.max(1, count - 39);
            for (int gone : new int[] {oldest - 1, oldest - 2, oldest - 40, count + 1, count + 2, count + 40, count + 41,
                Integer.MIN_VALUE, Integer.MAX_VALUE}) {
                Checks.raises(gone + " of " + count, NoSuchElementException.class, () -> token.signature(gone, 2));
                Checks.raises(gone + " of " + count, NoSuchElementException.class, () -> token.offer(0, gone, 0, 0));
            }
            for (int there : new int[] {oldest, Math.min(oldest + 1, count), count}) {
                for (int field = 1; field <= 6; field++) {
                    int due = new int[] {1, there, 752, 4, 0, 0}[field - 1];
                    Checks.same("field " + field + " of " + there, token.signature(there, field), due);
                }
            }
            Checks.same("the oldest of " + count, token.offer(0, oldest, 0, 0), 0);
            Checks.same("its key", token.party(0, 10), oldest);
            token.open(0, 1);
            Checks.same("the latest of " + count, token.offer(0, count, 0, 0), 2);
        }
    }
}
