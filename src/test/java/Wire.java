/** Requests and answers as hexadecimal texts, and all that can be seen of an object as one text. */
final class Wire {
    static final String INFO = "04";
    static final String NEXT = "08";
    static final String RESET = "07";
    static final String TRIES = "06 a1 01 01";
    static final String BLANK = "-1 -1 -1 -1 -1 -1";

    private Wire() {
    }

    static byte[] bytes(String hex) {
        String digits = hex.replace(" ", "");
        byte[] bytes = new byte[digits.length() / 2];
        for (int i = 0; i < bytes.length; i++) {
            bytes[i] = (byte) Integer.parseInt(digits.substring(2 * i, 2 * i + 2), 16);
        }
        return bytes;
    }

    /** Feeds eight bytes at a time, since the calls of an object are counted. */
    static void feed(Bench token, String hex) {
        byte[] all = bytes(hex);
        for (int at = 0; at < all.length; at += 8) {
            int n = Math.min(8, all.length - at);
            long chunk = 0;
            for (int i = at; i < at + n; i++) {
                chunk = chunk << 8 | all[i] & 255;
            }
            token.feed(chunk, n);
        }
    }

    static int ask(Bench token, String hex) {
        feed(token, hex);
        return token.send();
    }

    static int askPressed(Bench token, String hex) {
        token.press();
        return ask(token, hex);
    }

    /** All that is left of the output. */
    static String answer(Bench token) {
        StringBuilder text = new StringBuilder();
        while (token.waiting() > 0) {
            int n = Math.min(8, token.waiting());
            long number = token.take();
            for (int i = n - 1; i >= 0; i--) {
                text.append(String.format("%02x", number >> (8 * i) & 255));
            }
        }
        return spaced(text.toString());
    }

    private static String spaced(String digits) {
        return digits.replaceAll("(..)(?=.)", "$1 ");
    }

    static String number(int n) {
        if (n < 24) {
            return String.format("%02x", n);
        }
        if (n < 256) {
            return String.format("18%02x", n);
        }
        return n < 65536 ? String.format("19%04x", n) : String.format("1a%08x", n);
    }

    static String text(String text) {
        StringBuilder hex = new StringBuilder(String.format("%02x", 0x60 + text.length()));
        for (int i = 0; i < text.length(); i++) {
            hex.append(String.format("%02x", (int) text.charAt(i)));
        }
        return hex.toString();
    }

    static String list(int... numbers) {
        StringBuilder hex = new StringBuilder(String.format("%02x", 0x80 + numbers.length));
        for (int n : numbers) {
            hex.append(number(n));
        }
        return hex.toString();
    }

    static String make(int challenge, String party, int user) {
        return "01 a3 01" + number(challenge) + "02" + text(party) + "03" + number(user);
    }

    static String makeExcluding(int challenge, String party, int user, int... excluded) {
        return "01 a4 01" + number(challenge) + "02" + text(party) + "03" + number(user) + "05" + list(excluded);
    }

    static String makeWith(int challenge, String party, int user, int ticket) {
        return "01 a4 01" + number(challenge) + "02" + text(party) + "03" + number(user) + "08" + number(ticket);
    }

    static String sign(String party, int challenge) {
        return "02 a2 01" + text(party) + "02" + number(challenge);
    }

    static String signAllowed(String party, int challenge, int... allowed) {
        return "02 a3 01" + text(party) + "02" + number(challenge) + "03" + list(allowed);
    }

    static String signWith(String party, int challenge, int ticket) {
        return "02 a3 01" + text(party) + "02" + number(challenge) + "06" + number(ticket);
    }

    static String setPin(String pin) {
        return "06 a2 01 03 03" + text(pin);
    }

    static String changePin(String old, String pin) {
        return "06 a3 01 04 02" + text(old) + "03" + text(pin);
    }

    static String ticket(String pin) {
        return "06 a2 01 05 02" + text(pin);
    }

    static int numberOfText(String text) {
        int x = 5;
        for (int i = 0; i < text.length(); i++) {
            x = x * 131 + text.charAt(i);
        }
        return x;
    }

    static int seal(int... cells) {
        int x = 7;
        for (int cell : cells) {
            x = (x ^ cell) * 16777619 + 1;
        }
        return x & 0x7fffffff;
    }

    /** A whole record as page tells it. */
    static String record(int name, int serial, int... data) {
        int label = name + 16 * serial;
        int seal = seal(label, data[0], data[1], data[2], data[3]);
        return label + " " + data[0] + " " + data[1] + " " + data[2] + " " + data[3] + " " + seal;
    }

    static String page(Bench token, int page) {
        StringBuilder text = new StringBuilder();
        for (int k = 0; k < 6; k++) {
            text.append(k == 0 ? "" : " ").append(token.cell(page, k));
        }
        return text.toString();
    }

    static String store(Bench token) {
        StringBuilder text = new StringBuilder();
        for (int page = 0; page < 7; page++) {
            text.append(page(token, page)).append('|');
        }
        return text.toString();
    }

    static String parties(Bench token) {
        StringBuilder text = new StringBuilder();
        for (int party = 0; party < 4; party++) {
            int registrations = token.party(party, 0);
            text.append(registrations).append(" open ").append(token.party(party, 1));
            for (int k = 0; k < registrations; k++) {
                for (int what = 10 + k; what < 40; what += 10) {
                    text.append(' ').append(token.party(party, what));
                }
            }
            text.append('|');
        }
        return text.toString();
    }

    static String signatures(Bench token) {
        StringBuilder text = new StringBuilder();
        int made = token.look(8);
        for (int number = Math.max(1, made - 39); number <= made; number++) {
            for (int what = 1; what <= 6; what++) {
                text.append(token.signature(number, what)).append(' ');
            }
        }
        return text.toString();
    }

    /** All that can be seen of an object without changing it; some 60 calls, and more for what it has made. */
    static String state(Bench token) {
        StringBuilder text = new StringBuilder(store(token));
        for (int what = 0; what < 9; what++) {
            text.append(token.look(what)).append(' ');
        }
        return text.append(token.waiting()).append(' ')
                .append(parties(token)).append(signatures(token)).toString();
    }
}
