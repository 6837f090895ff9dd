/** Requests and answers as hexadecimal texts, and all that can be seen of an object as one text. */
final class Wire {
    static final String INFO = "04";
    static final String NEXT = "08";
    static final String RESET = "07";
    static final String TRIES = "06 a1 01 01";

    private Wire() {
    }

    static byte[] bytes(String hex) {
        String digits = hex.replace(" ", "");
        byte[] bytes = new byte[digits.length() / 2];
        for (int i = 0; i < bytes.length; i++) {
            bytes[i] = (byte) Integer.parseInt(digits.substring(2 * i, 2 * i + 2), 16);
        }
        return bytes;
    }

    static void feed(KeyToken token, String hex) {
        for (byte b : bytes(hex)) {
            token.feed(b, 1);
        }
    }

    static int ask(KeyToken token, String hex) {
        feed(token, hex);
        return token.send();
    }

    static int askPressed(KeyToken token, String hex) {
        token.press();
        return ask(token, hex);
    }

    /** All that is left of the output. */
    static String answer(KeyToken token) {
        StringBuilder text = new StringBuilder();
        while (token.waiting() > 0) {
            int n = Math.min(8, token.waiting());
            long number = token.take();
            for (int i = n - 1; i >= 0; i--) {
                text.append(String.format("%02x", number >> (8 * i) & 255));
            }
        }
        return spaced(text.toString());
    }

    private static String spaced(String digits) {
        return digits.replaceAll("(..)(?=.)", "$1 ");
    }

    static String number(int n) {
        if (n < 24) {
            return String.format("%02x", n);
        }
        if (n < 256) {
            return String.format("18%02x", n);
        }
        return n < 65536 ? String.format("19%04x", n) : String.format("1a%08x", n);
    }

    static String text(String text) {
        StringBuilder hex = new StringBuilder(String.format("%02x", 0x60 + text.length()));
        for (int i = 0; i < text.length(); i++) {
            hex.append(String.format("%02x", (int) text.charAt(i)));
        }
        return hex.toString();
    }

    static String list(int... numbers) {
        StringBuilder hex = new StringBuilder(String.format("%02x", 0x80 + numbers.length));
        for (int n : numbers) {
            hex.append(number(n));
        }
        return hex.toString();
    }

    static String make(int challenge, String party, int user) {
        return "01 a3 01" + number(challenge) + "02" + text(party) + "03" + number(user);
    }

    static String makeExcluding(int challenge, String party, int user, int... excluded) {
        return "01 a4 01" + number(challenge) + "02" + text(party) + "03" + number(user) + "05" + list(excluded);
    }

    static String makeWith(int challenge, String party, int user, int ticket) {
        return "01 a4 01" + number(challenge) + "02" + text(party) + "03" + number(user) + "08" + number(ticket);
    }

    static String sign(String party, int challenge) {
        return "02 a2 01" + text(party) + "02" + number(challenge);
    }

    static String signAllowed(String party, int challenge, int... allowed) {
        return "02 a3 01" + text(party) + "02" + number(challenge) + "03" + list(allowed);
    }

    static String signWith(String party, int challenge, int ticket) {
        return "02 a3 01" + text(party) + "02" + number(challenge) + "06" + number(ticket);
    }

    static String setPin(String pin) {
        return "06 a2 01 03 03" + text(pin);
    }

    static String changePin(String old, String pin) {
        return "06 a3 01 04 02" + text(old) + "03" + text(pin);
    }

    static String ticket(String pin) {
        return "06 a2 01 05 02" + text(pin);
    }

    static int numberOfText(String text) {
        int x = 5;
        for (int i = 0; i < text.length(); i++) {
            x = x * 131 + text.charAt(i);
        }
        return x;
    }

    static String page(KeyToken token, int page) {
        StringBuilder text = new StringBuilder();
        for (int k = 0; k < 6; k++) {
            text.append(k == 0 ? "" : " ").append(token.cell(page, k));
        }
        return text.toString();
    }

    static String store(KeyToken token) {
        StringBuilder text = new StringBuilder();
        for (int page = 0; page < 7; page++) {
            text.append(page(token, page)).append('|');
        }
        return text.toString();
    }

    static String parties(KeyToken token) {
        StringBuilder text = new StringBuilder();
        for (int party = 0; party < 4; party++) {
            for (int what = 0; what < 40; what++) {
                text.append(token.party(party, what)).append(' ');
            }
        }
        return text.toString();
    }

    static String signatures(KeyToken token) {
        StringBuilder text = new StringBuilder();
        int made = token.look(8);
        for (int number = Math.max(1, made - 39); number <= made; number++) {
            for (int what = 1; what <= 6; what++) {
                text.append(token.signature(number, what)).append(' ');
            }
        }
        return text.toString();
    }

    static String state(KeyToken token) {
        StringBuilder text = new StringBuilder(store(token));
        for (int what = 0; what < 10; what++) {
            text.append(token.look(what)).append(' ');
        }
        return text.append(token.waiting()).append(' ')
                .append(parties(token)).append(signatures(token)).toString();
    }
}
