/** Promise 3. */
public final class FeedTest {
    public static void main(String[] args) {
        putsTheLowestBytes();
        refusesWrongCounts();
        refusesWithoutRoom();
        refusesWithoutPower();
        Checks.end("FeedTest");
    }

    private static void putsTheLowestBytes() {
        KeyToken token = new KeyToken();
        token.feed(0x7766554433221104L, 1);
        Checks.same("one byte", token.look(6), 1);
        Checks.same("the lowest", token.send(), 0);
        token.feed(0xff01a30107026161L, 7);
        Checks.same("seven bytes", token.look(6), 7);
        token.feed(0x0305, 2);
        token.press();
        Checks.same("the highest first, the next behind", token.send(), 0);
        Checks.same("its challenge", token.signature(1, 4), 7);
        token.feed(0x01a3010702616103L, 8);
        token.feed(-1L << 8 | 5, 1);
        Checks.same("all eight", token.send(), 7);
        token.feed(0xa4a0000000000000L, 8);
        Checks.same("a negative number's bytes", token.send(), 1);
    }

    private static void refusesWrongCounts() {
        KeyToken token = new KeyToken();
        token.feed(4, 1);
        int[] wrong = {0, -1, 9, Integer.MIN_VALUE, Integer.MAX_VALUE};
        for (int n : wrong) {
            Checks.raisesAndKeeps("feed " + n, token, IllegalArgumentException.class, () -> token.feed(5, n));
        }
        Checks.same("the input is as it was", token.send(), 0);
    }

    private static void refusesWithoutRoom() {
        KeyToken token = new KeyToken();
        for (int i = 0; i < 5; i++) {
            token.feed(0, 8);
        }
        token.feed(0, 7);
        Checks.same("47 bytes", token.look(6), 47);
        Checks.raisesAndKeeps("two more", token, IllegalArgumentException.class, () -> token.feed(0, 2));
        token.feed(0, 1);
        Checks.same("48 bytes", token.look(6), 48);
        Checks.raisesAndKeeps("one more", token, IllegalArgumentException.class, () -> token.feed(0, 1));
        token.send();
        token.feed(4, 1);
        Checks.same("room again", token.send(), 0);
    }

    private static void refusesWithoutPower() {
        KeyToken token = new KeyToken();
        token.power(false);
        Checks.raisesAndKeeps("no power", token, IllegalStateException.class, () -> token.feed(4, 1));
        Checks.raisesAndKeeps("no power comes first", token, IllegalStateException.class, () -> token.feed(4, 9));
    }
}
