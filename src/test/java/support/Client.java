import java.util.NoSuchElementException;

/** A KeySteward with texts in the place of bytes, for tests. */
final class Client {
    final KeySteward steward = new KeySteward();

    /** Sends the bytes of a text, a tape at a time: what the last send answered. */
    int send(int connection, String text) {
        int answer = 0;
        int at = 0;
        do {
            int part = Math.min(text.length() - at, 65540);
            load(text.substring(at, at + part));
            answer = steward.send(connection);
            at += part;
        } while (at < text.length());
        return answer;
    }

    /** The tape becomes this text. */
    void load(String text) {
        steward.end(0);
        for (int at = 0; at < text.length(); at += 20) {
            steward.feed(four(text, at), four(text, at + 4), four(text, at + 8), four(text, at + 12),
                    four(text, at + 16));
        }
        steward.end(text.length());
    }

    private static int four(String text, int at) {
        int number = 0;
        for (int i = at; i < at + 4; i++) {
            number = number << 8 | (i < text.length() ? text.charAt(i) : 0);
        }
        return number;
    }

    String output(int connection) {
        StringBuilder all = new StringBuilder();
        int size = steward.out(connection);
        for (int i = 0; i < size; i++) {
            all.append((char) steward.outAt(connection, i));
        }
        return all.toString();
    }

    /** The output, which is taken. */
    String taken(int connection) {
        String all = output(connection);
        steward.take(connection, all.length());
        return all;
    }

    /** Sends one request as a line: its answer. */
    String ask(int connection, String line) {
        send(connection, line + "\r\n");
        return taken(connection);
    }

    String log() {
        StringBuilder all = new StringBuilder();
        int size = steward.log();
        for (int i = 0; i < size; i++) {
            all.append((char) steward.logAt(i));
        }
        return all.toString();
    }

    boolean lacksOut(int connection, int i) {
        try {
            steward.outAt(connection, i);
            return false;
        } catch (NoSuchElementException e) {
            return true;
        }
    }

    boolean lacksLog(int i) {
        try {
            steward.logAt(i);
            return false;
        } catch (NoSuchElementException e) {
            return true;
        }
    }

    /** A request with * of these words. */
    static String star(String... words) {
        StringBuilder all = new StringBuilder("*" + words.length + "\r\n");
        for (String word : words) {
            all.append("$" + word.length() + "\r\n" + word + "\r\n");
        }
        return all.toString();
    }

    /** Bytes as they can be read: CR LF as a bar, others that are no signs as numbers. */
    static String shown(String bytes) {
        StringBuilder all = new StringBuilder();
        for (char b : bytes.replace("\r\n", "|").toCharArray()) {
            all.append(b >= 32 && b < 127 ? "" + b : "<" + (int) b + ">");
        }
        return all.toString();
    }
}
