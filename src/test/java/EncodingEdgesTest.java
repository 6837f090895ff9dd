/** Each sentence of ENCODING at its boundaries and beside them. A comment before a test quotes the sentence. */
public final class EncodingEdgesTest {
    private static final int[] WIDTHS = {0, 1, 2, 4};
    private static final long[] LEAST = {0, 24, 256, 65536};
    private static final long[] GREATEST = {23, 255, 65535, 2147483647L};
    private static final long[] NUMBERS = {0, 1, 22, 23, 24, 25, 254, 255, 256, 257, 65534, 65535, 65536, 65537,
        16777215, 16777216, 2147483646L, 2147483647L, 2147483648L, 2147483649L, 4294967294L, 4294967295L};

    public static void main(String[] args) {
        numbersAsItems();
        numbersAsParameters();
        numbersAsKeys();
        numbersAsCounts();
        otherLengthsOfNumbers();
        countsUpToTheRoom();
        pairsUpToTheRoom();
        charactersOfTexts();
        bytesOfBytes();
        truths();
        majorsThatAreNone();
        keysThatRise();
        keysOfOtherKinds();
        insideOneAnother();
        whatEndsTooSoon();
        whatEndsTooSoonAtTheEndOfTheRoom();
        commandsOfAllNumbers();
        moreThanOneMap();
        answersOfFewBytes();
        Checks.end("EncodingEdgesTest");
    }

    /** The head of an item whose number takes so many bytes behind the first one, whether it may or not. */
    private static String head(int major, int width, long number) {
        if (width == 0) {
            return String.format("%02x", 32 * major + number);
        }
        int m = width == 1 ? 24 : width == 2 ? 25 : 26;
        String digits = String.format("%016x", number);
        return String.format("%02x", 32 * major + m) + digits.substring(16 - 2 * width);
    }

    private static boolean fits(int width, long number) {
        return width == 0 ? number <= 23 : width == 4 || number < 1L << 8 * width;
    }

    private static void info(String hex, boolean wellFormed) {
        Checks.same("request " + hex, Wire.ask(new Bench(), hex), wellFormed ? 0 : 2);
    }

    private static void item(String hex, boolean wellFormed) {
        info("04 a1 01" + hex, wellFormed);
    }

    private interface Use {
        void of(String hex, int number, boolean wellFormed);
    }

    /** Each number that is at an edge, in each length that it could have. */
    private static void eachNumber(Use use) {
        for (int i = 0; i < WIDTHS.length; i++) {
            for (long number : NUMBERS) {
                if (fits(WIDTHS[i], number)) {
                    use.of(head(0, WIDTHS[i], number), (int) number, number >= LEAST[i] && number <= GREATEST[i]);
                }
            }
        }
    }

    // "Its NUMBER is m if m is below 24; for m = 24, 25, 26 it is in the next 1, 2, 4 bytes, the highest first, and must
    // be at least 24, 256, 65536; for 26 it must be below 2147483648"
    private static void numbersAsItems() {
        eachNumber((hex, number, wellFormed) -> item(hex, wellFormed));
        eachNumber((hex, number, wellFormed) -> item("81" + hex, wellFormed));
        eachNumber((hex, number, wellFormed) -> item("a1 00" + hex, wellFormed));
    }

    private static void numbersAsParameters() {
        eachNumber((hex, number, wellFormed) -> {
            Bench token = new Bench();
            Checks.same("challenge " + hex, Wire.askPressed(token, "01 a3 01" + hex + "02 61 61 03 05"), wellFormed ? 0 : 2);
            if (wellFormed) {
                Checks.same("its number", token.signature(1, 4), number);
            }
            Bench other = new Bench();
            Checks.same("user " + hex, Wire.askPressed(other, "01 a3 01 05 02 61 61 03" + hex), wellFormed ? 0 : 2);
            Checks.same("its number", other.cell(0, 2), wellFormed ? number : -1);
        });
    }

    private static void numbersAsKeys() {
        eachNumber((hex, number, wellFormed) -> info("04 a1" + hex + "00", wellFormed));
        eachNumber((hex, number, wellFormed) -> item("a1" + hex + "00", wellFormed));
    }

    // "2: BYTES, 3: TEXT, of so many bytes, which follow .. 4: a LIST of so many items, which follow. 5: a MAP of so many
    // pairs"
    private static void numbersAsCounts() {
        for (int major = 2; major <= 5; major++) {
            String one = major == 3 ? "41" : "00";
            for (int width : WIDTHS) {
                item(head(major, width, 0), width == 0);
                item(head(major, width, 1) + (major == 5 ? "00 00" : one), width == 0);
                if (major < 5) {
                    item(head(major, width, 23) + one.repeat(23), width == 0);
                    if (width > 0) {
                        item(head(major, width, 24) + one.repeat(24), width == 1);
                    }
                }
            }
            for (long great : new long[] {256, 65535}) {
                item(head(major, 2, great) + one.repeat(40), false);
            }
            for (long great : new long[] {65536, 2147483647L, 2147483648L, 4294967295L}) {
                item(head(major, 4, great) + one.repeat(38), false);
                item(head(major, 4, great), false);
            }
        }
    }

    private static final String[] OTHER_NUMBERS = {"", "00", "18", "ff", "01 00", "00 ff", "00 01 00 00", "7f ff ff ff",
        "00 00 00 00 00 00 00 18", "00 00 00 00 00 01 00 00", "00 00 00 01 00 00 00 00", "00 00 00 01 7f ff ff ff",
        "00 00 00 00 00 00 00 00 00 00 00 00 00 01 00 00"};

    // "other m: MALFORMED"
    private static void otherLengthsOfNumbers() {
        for (int major = 0; major < 8; major++) {
            for (int m = 27; m <= 31; m++) {
                String first = String.format("%02x", 32 * major + m);
                for (String number : OTHER_NUMBERS) {
                    item(first + number, false);
                    item(first + number + "00", false);
                    info("04" + first + number, false);
                    info("04 a1" + first + number + "00", false);
                }
            }
        }
    }

    private static void countsUpToTheRoom() {
        for (int major = 2; major <= 4; major++) {
            String one = major == 3 ? "7e" : "17";
            for (int count : new int[] {1, 2, 7, 8, 22, 23, 24, 25, 41, 42, 43}) {
                String begin = head(major, count < 24 ? 0 : 1, count);
                item(begin + one.repeat(count - 1), false);
                item(begin + one.repeat(count), true);
                if (count < 43) {
                    item(begin + one.repeat(count + 1), false);
                }
            }
            item(head(major, 1, 44) + one.repeat(43), false);
        }
    }

    private static void pairsUpToTheRoom() {
        for (int count = 0; count <= 23; count++) {
            StringBuilder pairs = new StringBuilder();
            for (int key = 0; key < count; key++) {
                pairs.append(String.format("%02x f5", key));
            }
            String begin = String.format("04 %02x", 0xa0 + count);
            info(begin + pairs, true);
            if (count > 0) {
                info(begin + pairs.substring(0, pairs.length() - 2), false);
                info(begin + pairs.substring(0, pairs.length() - 5), false);
                info(String.format("04 %02x", 0xa0 + count - 1) + pairs, false);
            }
            if (count < 23) {
                info(String.format("04 %02x", 0xa0 + count + 1) + pairs, false);
            }
        }
        // 24 pairs are never whole in the room of the input.
        info("04 b8 18" + pairs(22) + "16", false);
    }

    // "of a text each is 32 .. 126"
    private static void charactersOfTexts() {
        for (int c = 0; c < 256; c++) {
            String hex = String.format("%02x", c);
            boolean allowed = c >= 32 && c <= 126;
            item("61" + hex, allowed);
            item("63" + hex + "41 41", allowed);
            item("63 41" + hex + "41", allowed);
            item("63 41 41" + hex, allowed);
        }
        for (int c : new int[] {32, 126}) {
            Bench token = new Bench();
            String hex = String.format("%02x", c);
            Checks.same("a party of character " + c, Wire.askPressed(token, "01 a3 01 05 02 61" + hex + "03 05"), 0);
            Checks.same("its number", token.signature(1, 3), 655 + c);
        }
        for (int c : new int[] {31, 127}) {
            String hex = String.format("%02x", c);
            Checks.same("a party of character " + c, Wire.askPressed(new Bench(), "01 a3 01 05 02 61" + hex + "03 05"), 2);
        }
    }

    private static void bytesOfBytes() {
        for (int b = 0; b < 256; b++) {
            item("41" + String.format("%02x", b), true);
        }
    }

    // "Major 7: m 20 is FALSE, 21 TRUE, others .. are malformed"
    private static void truths() {
        for (int m = 0; m < 32; m++) {
            String first = String.format("%02x", 0xe0 + m);
            boolean truth = m == 20 || m == 21;
            item(first, truth);
            item("81" + first, truth);
            item(first + "14", false);
            item(first + "15", false);
            item(first + "18", false);
            item(first + "00 14", false);
            item(first + "00 00 00 14", false);
        }
    }

    // "and majors 1 and 6, are malformed"
    private static void majorsThatAreNone() {
        for (int major : new int[] {1, 6}) {
            for (int m = 0; m < 24; m++) {
                item(head(major, 0, m), false);
                item(head(major, 0, m) + "00", false);
            }
            item(head(major, 1, 24), false);
            item(head(major, 1, 24) + "00", false);
            item(head(major, 2, 256), false);
            item(head(major, 2, 256) + "00", false);
            item(head(major, 4, 65536), false);
            item(head(major, 4, 65536) + "00", false);
            info("04" + head(major, 0, 0), false);
            info("04" + head(major, 0, 0) + "a0", false);
        }
    }

    // "the keys are numbers, each greater than the one before"
    private static void keysThatRise() {
        int[] keys = {0, 1, 22, 23, 24, 25, 255, 256, 65535, 65536, 2147483646, 2147483647};
        for (int first : keys) {
            for (int second : keys) {
                String pairs = "a2" + Wire.number(first) + "00" + Wire.number(second) + "00";
                info("04" + pairs, second > first);
                item(pairs, second > first);
                item("81" + pairs, second > first);
            }
        }
        info("04 a3 01 00 02 00 02 00", false);
        info("04 a3 01 00 03 00 02 00", false);
        info("04 a3 01 00 02 00 01 00", false);
        info("04 a3 01 00 02 00 03 00", true);
        info("04 a2 05 a1 00 00 06 a1 00 00", true);
        info("04 a2 05 a1 09 00 06 00", true);
        info("04 a2 05 a1 00 00 05 00", false);
        info("04 a2 05 a1 00 00 04 00", false);
        info("04 a2 05 a1 00 00 01 00", false);
        info("04 a2 05 82 09 09 05 00", false);
        info("04 a2 05 82 09 09 06 00", true);
        info("04 a2 05 09 06 00", true);
        Checks.same("twice the same parameter", Wire.askPressed(new Bench(), "01 a4 01 05 02 61 61 03 05 03 06"), 2);
        Checks.same("parameters that fall", Wire.askPressed(new Bench(), "01 a3 02 61 61 01 05 03 05"), 2);
    }

    private static void keysOfOtherKinds() {
        String[] kinds = {"40", "41 00", "60", "61 41", "80", "81 00", "a0", "a1 00 00", "f4", "f5", "20", "c0"};
        for (String kind : kinds) {
            info("04 a1" + kind + "00", false);
            item("a1" + kind + "00", false);
            info("04 a2 00 00" + kind + "00", false);
        }
    }

    // "Lists and maps stand at most 3 inside one another."
    private static void insideOneAnother() {
        String[] opens = {"81", "a1 00"};
        String[] ends = {"80", "a0"};
        for (String second : opens) {
            item(second + "00", true);
            for (String end : ends) {
                item(end, true);
                item(second + end, true);
            }
            for (String third : opens) {
                item(second + third + "00", true);
                item(second + third + "61 41", true);
                for (String end : ends) {
                    item(second + third + end, false);
                    item(second + third + opens[0] + end, false);
                    item(second + third + opens[1] + "00", false);
                }
            }
        }
        // Those that stand beside one another don't count.
        item("84 80 80 80 80", true);
        item("83 81 00 81 00 a1 00 00", true);
        item("83 81 00 81 80 00", false);
        item("82 81 00 81 80", false);
        info("04 a4 01 81 80 02 81 80 03 a1 00 80 04 a1 00 a0", true);
        info("04 a4 01 81 80 02 81 80 03 a1 00 80 04 a1 00 81 80", false);
        item("81".repeat(43) + "80", false);
        item("81".repeat(44), false);
    }

    // "What ends before it is whole is malformed, too."
    private static void whatEndsTooSoon() {
        String[] whole = {"04 a1 01 17", "04 a1 18 18 00", "04 a1 01 18 18", "04 a1 01 19 01 00", "04 a1 01 1a 00 01 00 00",
            "04 a1 01 44 00 01 02 03", "04 a1 01 64 41 41 41 41", "04 a1 01 58 18" + " 00".repeat(24),
            "04 a1 01 78 18" + " 41".repeat(24), "04 a1 01 84 00 01 02 03", "04 a1 01 83 41 00 61 41 f5",
            "04 a3 01 f4 02 f5 03 80", "04 a1 01 a2 01 00 18 18 00", "04 a2 01 82 19 01 00 81 00 02 a1 03 62 41 42",
            "04 a1 1a 7f ff ff ff 1a 7f ff ff ff", "04 a1 01 98 18" + " 00".repeat(24)};
        for (String hex : whole) {
            info(hex, true);
            info(hex.substring(0, 2), true);
            for (int end = 5; end < hex.length(); end += 3) {
                info(hex.substring(0, end), false);
            }
            info(hex + " 00", false);
        }
        String make = "01 a4 01 05 02 62 61 62 03 18 64 05 82 01 02";
        for (int end = 5; end < make.length(); end += 3) {
            Checks.same("MAKE to " + end, Wire.askPressed(new Bench(), make.substring(0, end)), 2);
        }
        Checks.same("MAKE whole", Wire.askPressed(new Bench(), make), 0);
    }

    private static void whatEndsTooSoonAtTheEndOfTheRoom() {
        String nearly = "04 a2 01 78 26" + "41".repeat(38) + "02";
        String[] whole = {"18 18 ", "19 01 00 ", "82 00 00 ", "62 41 41 ", "42 00 00 ", "a1 00 00 "};
        for (String hex : whole) {
            info(nearly + hex, true);
        }
        String[] cut = {"18", "19", "19 01", "19 01 00 00", "1a", "1a 00", "1a 00 01", "1a 00 01 00", "81", "82 00",
            "83 00 00", "61", "62 41", "63 41 41", "64 41 41 41", "41", "44 00 00 00", "a1", "a1 00", "a1 18", "a2 00 00"};
        for (String hex : cut) {
            info(nearly + hex, false);
        }
        // What an earlier, longer request left behind the end of the input is no part of the next one.
        for (String hex : cut) {
            Bench token = new Bench();
            Wire.ask(token, "04 a1 01 78 2a" + "00".repeat(42));
            Checks.same("after a long one, " + hex, Wire.ask(token, "04 a1 01" + hex), 2);
        }
    }

    // "A REQUEST is a byte, its COMMAND" and "1 no such command"
    private static void commandsOfAllNumbers() {
        for (int command = 0; command < 256; command++) {
            String hex = String.format("%02x", command);
            int due = command == 1 || command == 2 || command == 6 ? 4 : command == 4 ? 0 : command == 7 ? 7 : command == 8 ? 5 : 1;
            Checks.same("command " + hex, Wire.ask(new Bench(), hex), due);
            Checks.same("command " + hex + " a0", Wire.ask(new Bench(), hex + "a0"), due);
            Checks.same("command " + hex + " ff", Wire.ask(new Bench(), hex + "ff"), due == 1 ? 1 : 2);
        }
    }

    // "behind it one map, or nothing, which counts as an empty map; more is malformed"
    private static void moreThanOneMap() {
        for (int b = 0; b < 256; b++) {
            String hex = String.format("%02x", b);
            info("04 a0" + hex, false);
            info("04 a1 01 05" + hex, false);
            info("04" + hex, b == 0xa0);
        }
        String[] others = {"17", "18 18", "40", "41 00", "60", "61 41", "80", "81 a0", "f4", "f5"};
        for (String hex : others) {
            info("04" + hex, false);
        }
        info("04" + "a0".repeat(47), false);
        info("04 b7" + pairs(23), true);
        info("04 b6" + pairs(22) + "00", false);
    }

    private static String pairs(int count) {
        StringBuilder hex = new StringBuilder();
        for (int key = 0; key < count; key++) {
            hex.append(String.format("%02x00", key));
        }
        return hex.toString();
    }

    // "numbers with as few bytes as they take"
    private static void answersOfFewBytes() {
        long[] users = {0, 1, 22, 23, 24, 25, 254, 255, 256, 257, 65534, 65535, 65536, 65537, 2147483646, 2147483647};
        for (long user : users) {
            Bench token = new Bench();
            String hex = Wire.number((int) user);
            Wire.askPressed(token, "01 a3 01 05 02 61 61 03" + hex);
            Wire.askPressed(token, Wire.sign("a", 1));
            Checks.same("user " + user, Wire.answer(token).replace(" ", ""), "00a60101020103020401050106" + hex);
        }
        Bench token = new Bench();
        for (int made = 1; made <= 26; made++) {
            Wire.askPressed(token, Wire.make(1, "a", 1));
            String n = Wire.number(made);
            Checks.same("key and signature " + made, Wire.answer(token).replace(" ", ""), "00a3010102" + n + "03" + n);
        }
        for (int counter = 1; counter <= 26; counter++) {
            Wire.askPressed(token, Wire.sign("a", 1));
            String due = "00a6010102181a03" + Wire.number(26 + counter) + "04" + Wire.number(counter) + "05010601";
            Checks.same("counter " + counter, Wire.answer(token).replace(" ", ""), due);
        }
        Bench guarded = new Bench();
        Wire.ask(guarded, Wire.setPin("1234"));
        for (int ticket = 1; ticket <= 26; ticket++) {
            Wire.ask(guarded, Wire.ticket("1234"));
            Checks.same("ticket " + ticket, Wire.answer(guarded).replace(" ", ""), "00a101" + Wire.number(ticket));
        }
    }
}
