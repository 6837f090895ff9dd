/**
 * An object of the class, call for call. It counts its calls: behind the 512th the document promises
 * nothing, so no test may build on what comes there.
 */
final class Bench {
    private static final int MOST_CALLS = 512;

    private final KeyToken token = new KeyToken();
    private int calls;

    private KeyToken called() {
        calls++;
        if (calls > MOST_CALLS) {
            throw new AssertionError("a test makes more than " + MOST_CALLS + " calls on one object");
        }
        return token;
    }

    int callsLeft() {
        return MOST_CALLS - calls;
    }

    boolean press() {
        return called().press();
    }

    void feed(long bytes, int n) {
        called().feed(bytes, n);
    }

    int send() {
        return called().send();
    }

    int waiting() {
        return called().waiting();
    }

    long take() {
        return called().take();
    }

    boolean power(boolean on) {
        return called().power(on);
    }

    boolean cut(int k) {
        return called().cut(k);
    }

    int open(int party, int user) {
        return called().open(party, user);
    }

    int ceremony(int party, int origin, boolean registers, int ticket) {
        return called().ceremony(party, origin, registers, ticket);
    }

    int offer(int party, int signature, int what, int delta) {
        return called().offer(party, signature, what, delta);
    }

    int signature(int number, int what) {
        return called().signature(number, what);
    }

    int party(int party, int what) {
        return called().party(party, what);
    }

    int cell(int page, int k) {
        return called().cell(page, k);
    }

    int look(int what) {
        return called().look(what);
    }
}
