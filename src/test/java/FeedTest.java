/** Promise 3. */
public final class FeedTest {
    public static void main(String[] args) {
        putsTheLowestBytes();
        refusesWrongCounts();
        refusesWithoutRoom();
        refusesWithoutPower();
        Checks.end("FeedTest");
    }

    private static void putsTheLowestBytes() {
        Bench token = new Bench();
        token.feed(0x7766554433221104L, 1);
        Checks.same("one byte", token.look(6), 1);
        Checks.same("the lowest", token.send(), 0);
        token.feed(0xff01a30107026161L, 7);
        Checks.same("seven bytes", token.look(6), 7);
        token.feed(0x0305, 2);
        token.press();
        Checks.same("the highest first, the next behind", token.send(), 0);
        Checks.same("its challenge", token.signature(1, 4), 7);
        token.feed(0x01a3010702616103L, 8);
        token.feed(-1L << 8 | 5, 1);
        Checks.same("all eight", token.send(), 7);
        token.feed(0xa4a0000000000000L, 8);
        Checks.same("a negative number's bytes", token.send(), 1);
    }

    private static Bench fed(int bytes) {
        Bench token = new Bench();
        Wire.feed(token, "04".repeat(bytes));
        return token;
    }

    private static Object feed(Bench token, long bytes, int n) {
        token.feed(bytes, n);
        return "fed";
    }

    private static void refusesWrongCounts() {
        int[] wrong = {0, -1, 9, Integer.MIN_VALUE, Integer.MAX_VALUE};
        for (int n : wrong) {
            Twins.keeps("feed " + n, () -> fed(1), IllegalArgumentException.class, t -> feed(t, 5, n));
        }
    }

    private static void refusesWithoutRoom() {
        for (int n = 1; n <= 8; n++) {
            int count = n;
            Bench exact = fed(48 - n);
            Checks.same("room for just " + n, feed(exact, 0, n), "fed");
            Checks.same("48 bytes", exact.look(6), 48);
            Bench spare = fed(47 - n);
            Checks.same("room for one more than " + n, feed(spare, 0, n), "fed");
            Checks.same("47 bytes", spare.look(6), 47);
            Twins.keeps("room for one less than " + n, () -> fed(49 - count), IllegalArgumentException.class,
                    t -> feed(t, 5, count));
        }
        Bench token = fed(48);
        token.send();
        token.feed(4, 1);
        Checks.same("room again", token.send(), 0);
    }

    private static Bench withoutPower() {
        Bench token = new Bench();
        token.power(false);
        return token;
    }

    private static void refusesWithoutPower() {
        Twins.keeps("no power", FeedTest::withoutPower, IllegalStateException.class, t -> feed(t, 4, 1));
        Twins.keeps("no power comes first", FeedTest::withoutPower, IllegalStateException.class, t -> feed(t, 4, 9));
        Twins.keeps("and before 0 bytes", FeedTest::withoutPower, IllegalStateException.class, t -> feed(t, 4, 0));
    }
}
