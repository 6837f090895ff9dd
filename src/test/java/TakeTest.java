import java.util.NoSuchElementException;

/** Promise 6, and how answers are written. */
public final class TakeTest {
    public static void main(String[] args) {
        takesEightOrFewer();
        writesNumbersShort();
        throwsWithoutOutput();
        Checks.end("TakeTest");
    }

    private static void takesEightOrFewer() {
        Bench token = new Bench();
        Wire.ask(token, Wire.INFO);
        Checks.same("eight", token.take(), 0x00a3010002f40307L);
        Wire.ask(token, Wire.TRIES);
        Checks.same("four", token.take(), 0x00a10108L);
        Wire.askPressed(token, Wire.make(1, "a", 0x7f804020));
        Wire.askPressed(token, Wire.sign("a", 1));
        Checks.same("the first eight", token.take(), 0x00a6010102010302L);
        Checks.same("the next eight, a long's sign is no matter", token.take(), 0x04010501061a7f80L);
        Checks.same("the rest", token.take(), 0x4020L);
        Checks.raises("nothing is left", NoSuchElementException.class, token::take);
    }

    private static void writesNumbersShort() {
        int[] users = {0, 23, 24, 255, 256, 65535, 65536, Integer.MAX_VALUE};
        String[] written = {"00", "17", "18 18", "18 ff", "19 01 00", "19 ff ff", "1a 00 01 00 00", "1a 7f ff ff ff"};
        for (int i = 0; i < users.length; i++) {
            Bench token = new Bench();
            Wire.askPressed(token, Wire.make(1, "a", users[i]));
            Wire.askPressed(token, Wire.sign("a", 1));
            Checks.same("user " + users[i], Wire.answer(token), "00 a6 01 01 02 01 03 02 04 01 05 01 06 " + written[i]);
        }
    }

    private static Bench withoutPower() {
        Bench token = new Bench();
        Wire.ask(token, Wire.INFO);
        token.power(false);
        return token;
    }

    private static void throwsWithoutOutput() {
        Twins.keeps("no output", Bench::new, NoSuchElementException.class, Bench::take);
        Twins.keeps("no power", TakeTest::withoutPower, NoSuchElementException.class, Bench::take);
    }
}
