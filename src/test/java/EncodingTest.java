/** The term ENCODING, through INFO, which passes all keys over. */
public final class EncodingTest {
    public static void main(String[] args) {
        numbers();
        bytesAndTexts();
        listsAndMaps();
        wholeRequests();
        depth();
        everyFirstByte();
        everyCutOffRequest();
        Checks.end("EncodingTest");
    }

    private static void item(String hex, boolean wellFormed) {
        Checks.same("item " + hex, Wire.ask(new Bench(), "04 a1 01" + hex), wellFormed ? 0 : 2);
    }

    private static void numbers() {
        String[] good = {"00", "17", "18 18", "18 ff", "19 01 00", "19 ff ff", "1a 00 01 00 00", "1a 7f ff ff ff"};
        String[] bad = {"18", "18 00", "18 17", "19", "19 01", "19 00 00", "19 00 ff", "1a", "1a 00 01 00",
            "1a 00 00 ff ff", "1a 80 00 00 00", "1a ff ff ff ff", "1b 00 00 00 01 00 00 00 00", "1c", "1d", "1e", "1f"};
        all(good, true);
        all(bad, false);
    }

    private static void all(String[] items, boolean wellFormed) {
        for (String hex : items) {
            item(hex, wellFormed);
        }
    }

    private static void bytesAndTexts() {
        String[] good = {"40", "41 00", "42 ff 1f", "60", "61 20", "61 7e", "58 18" + "ff".repeat(24),
            "78 18" + "41".repeat(24), "78 2a" + "20".repeat(42)};
        String[] bad = {"41", "42 00", "61", "62 41", "61 1f", "61 7f", "61 80", "61 ff", "62 41 00", "62 00 41",
            "58 17" + "ff".repeat(23), "5a 7f ff ff ff", "7a 7f ff ff ff 41", "5f ff", "7f ff", "57" + "00".repeat(22)};
        all(good, true);
        all(bad, false);
    }

    private static void listsAndMaps() {
        String[] good = {"80", "81 01", "82 40 60", "83 f4 f5 00", "a0", "a1 00 00", "a2 00 00 01 00",
            "a2 05 61 41 18 18 80", "98 18" + "00".repeat(24)};
        String[] bad = {"81", "82 01", "9a 7f ff ff ff 00", "ba 7f ff ff ff 00 00", "98 17" + "00".repeat(23),
            "a1", "a1 00", "a2 00 00", "a2 00 00 00 00", "a2 01 00 00 00", "a1 61 41 00", "a1 40 00", "a1 f4 00",
            "a1 80 00", "a1 a0 00", "9f 00 ff", "bf ff", "a1 18 05 00", "82 01 f6", "a1 00 20"};
        all(good, true);
        all(bad, false);
    }

    private static void wholeRequests() {
        Bench token = new Bench();
        String[] bad = {"04 a0 00", "04 a0 a0", "04 00", "04 80", "04 60", "04 40", "04 f5", "04 f6", "04 20", "04 ff",
            "04 a1 01", "04 a1 01 00 00", "04 a2 01 00", "04 a2 02 00 01 00", "04 a2 01 00 01 00", "04 81 a0"};
        for (String hex : bad) {
            Checks.same("request " + hex, Wire.ask(token, hex), 2);
        }
        Checks.same("no map", Wire.ask(token, "04"), 0);
        Checks.same("an empty map", Wire.ask(token, "04 a0"), 0);
        Checks.same("48 bytes", Wire.ask(token, "04 a1 01 98 2b" + "00".repeat(43)), 0);
        Checks.same("48 bytes, one too few", Wire.ask(token, "04 a1 01 98 2c" + "00".repeat(43)), 2);
        Checks.same("48 bytes, a text too long", Wire.ask(token, "04 a1 01 78 2c" + "41".repeat(43)), 2);
        Checks.same("48 bytes, a number cut off", Wire.ask(token, "04 a1 01 98 2a" + "00".repeat(42) + "18"), 2);
        Checks.same("great keys", Wire.ask(token, "04 a2 1a 7f ff ff fe 00 1a 7f ff ff ff 00"), 0);
    }

    private static void depth() {
        String[] good = {"81 80", "81 a0", "a1 00 80", "a1 00 a0", "82 80 80", "81 81 00", "a1 00 a1 00 00",
            "82 81 00 a1 00 00"};
        String[] bad = {"81 81 80", "81 81 a0", "81 a1 00 80", "a1 00 81 a0", "a1 00 a1 00 80", "82 00 81 81 00",
            "81 81 81 81 81 81 81 81 80"};
        all(good, true);
        all(bad, false);
    }

    private static void everyFirstByte() {
        for (int b = 0; b < 256; b++) {
            int major = b / 32;
            int m = b % 32;
            boolean empty = m == 0 && major >= 2 && major <= 5;
            boolean number = major == 0 && m < 24;
            boolean wide = major == 0 && m == 24;
            boolean truth = b == 0xf4 || b == 0xf5;
            String hex = String.format("%02x", b);
            item(hex, empty || number || truth);
            item(hex + "ff", wide || major == 2 && m == 1);
        }
    }

    private static void everyCutOffRequest() {
        String whole = "04 a3 01 82 18 64 61 41 02 a1 19 01 00 43 00 01 02 1a 00 01 00 00 f5";
        Checks.same("whole", Wire.ask(new Bench(), whole), 0);
        for (int end = 5; end < whole.length(); end += 3) {
            Checks.same("cut off at " + end, Wire.ask(new Bench(), whole.substring(0, end)), 2);
        }
    }
}
