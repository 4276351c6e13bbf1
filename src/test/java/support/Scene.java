import java.util.ArrayList;
import java.util.List;

/**
 * A server on which one sentence of the document is tried. Requests go to connection 0 unless another one is told;
 * a watch of connection 2 tells whether keys were changed, and connection 3 looks at what the keys have.
 */
final class Scene {
    private static final int WATCHER = 2;
    private static final int LOOKER = 3;

    final Client client = new Client();
    final KeySteward steward = client.steward;
    private final Check check;
    private final String sentence;

    Scene(Check check, String sentence, String... setup) {
        this.check = check;
        this.sentence = sentence;
        for (String line : setup) {
            String answer = ask(0, line);
            due("ahead: " + line, answer.startsWith("-"), false);
        }
    }

    /** The words of a line: parted by blanks, '' for the empty one. */
    static String[] words(String line) {
        String[] all = line.split(" ");
        for (int i = 0; i < all.length; i++) {
            all[i] = all[i].equals("''") ? "" : all[i];
        }
        return all;
    }

    /** What a line is answered with. */
    String ask(int connection, String line) {
        client.send(connection, Client.star(words(line)));
        return Client.shown(client.taken(connection));
    }

    Scene due(String what, Object got, Object want) {
        check.due("\"" + sentence + "\": " + what, got, want);
        return this;
    }

    Scene answers(String line, String want) {
        return by(0, line, want);
    }

    Scene by(int connection, String line, String want) {
        return due(line, ask(connection, line), want);
    }

    /** Lines of connection 0 with their answers, one behind the other. */
    Scene holds(String... rows) {
        for (int i = 0; i + 1 < rows.length; i += 2) {
            answers(rows[i], rows[i + 1]);
        }
        return this;
    }

    /** A line is answered so and changes nothing: no key, no time, no byte of the log, nothing that is watched. */
    Scene keeps(String line, String want) {
        String before = state();
        watch(line);
        answers(line, want);
        due("behind " + line, state(), before);
        return due("watched: " + line, unwatched(), "*0|");
    }

    /** Lines that change nothing, with their answers. */
    Scene keepsAll(String... rows) {
        for (int i = 0; i + 1 < rows.length; i += 2) {
            keeps(rows[i], rows[i + 1]);
        }
        return this;
    }

    /** A line is answered so, changes keys among its words, and is logged so. */
    Scene changes(String line, String want, String logged) {
        watch(line);
        int before = steward.log();
        answers(line, want);
        due("log of " + line, Client.shown(client.log().substring(before)), starred(logged));
        return due("watched: " + line, unwatched(), "*-1|");
    }

    /** A line that is logged as it is. */
    Scene changes(String line, String want) {
        return changes(line, want, line);
    }

    /** Requests, parted by ; , as the log has them. */
    static String starred(String lines) {
        StringBuilder all = new StringBuilder();
        for (String line : lines.split(";")) {
            if (!line.isEmpty()) {
                all.append(Client.shown(Client.star(words(line))));
            }
        }
        return all.toString();
    }

    Scene logIs(String lines) {
        return due("log", Client.shown(client.log()), starred(lines));
    }

    Scene passes(long thousandths, int went) {
        return due("pass " + thousandths, steward.pass(thousandths), went);
    }

    Scene totals(int keys, int memory, int timed) {
        return due("keys", steward.total(0), keys).due("memory", steward.total(1), memory)
                .due("keys with a time", steward.total(2), timed);
    }

    Scene isOpen(int connection, boolean want) {
        return due("isOpen " + connection, steward.isOpen(connection), want);
    }

    Scene outputs(int connection, String want) {
        return due("output " + connection, Client.shown(client.output(connection)), want);
    }

    /** Bytes come to a connection: how many requests were done, and what its output has then. */
    Scene comes(int connection, String bytes, int done, String output) {
        String shown = Client.shown(bytes.length() > 60 ? bytes.substring(0, 60) + ".." : bytes);
        due("send " + shown, client.send(connection, bytes), done);
        return due("answer of " + shown, Client.shown(client.taken(connection)), output);
    }

    private void watch(String line) {
        String[] words = words(line);
        int last = Math.min(words.length, 60);
        String[] watch = new String[Math.max(last, 2)];
        watch[0] = "WATCH";
        watch[1] = "k";
        System.arraycopy(words, 1, watch, 1, last - 1);
        client.send(WATCHER, Client.star(watch));
        due("watch", Client.shown(client.taken(WATCHER)), "+OK|");
    }

    private String unwatched() {
        client.send(WATCHER, "MULTI\nEXEC\n");
        return Client.shown(client.taken(WATCHER)).substring("+OK|".length());
    }

    /** All that can be seen of a server from outside, but for what a connection watches and has queued. */
    String state() {
        StringBuilder all = new StringBuilder();
        all.append(steward.isUp()).append(' ').append(steward.now());
        for (int i = 0; i < 3; i++) {
            all.append(' ').append(steward.total(i));
        }
        for (int i = 0; i < 4; i++) {
            all.append("\n").append(steward.isOpen(i)).append(' ').append(client.output(i));
        }
        all.append("\n").append(client.log());
        if (steward.isUp() && steward.isOpen(LOOKER) && steward.out(LOOKER) == 0) {
            for (String key : rowOf(asked("KEYS", "*"))) {
                all.append("\n").append(key).append(' ').append(valueOf(key)).append(asked("PTTL", key));
            }
        }
        return all.toString();
    }

    private String asked(String... words) {
        client.send(LOOKER, Client.star(words));
        return client.taken(LOOKER);
    }

    private String valueOf(String key) {
        switch (asked("TYPE", key).trim()) {
            case "+string":
                return asked("GET", key);
            case "+list":
                return asked("LRANGE", key, "0", "-1");
            case "+hash":
                return asked("HGETALL", key);
            case "+set":
                return asked("SMEMBERS", key);
            default:
                return asked("ZRANGE", key, "0", "-1", "WITHSCORES");
        }
    }

    /** The words of a row of words. */
    static List<String> rowOf(String answer) {
        List<String> all = new ArrayList<>();
        int at = answer.indexOf('\n') + 1;
        while (at < answer.length()) {
            int end = answer.indexOf('\r', at);
            int length = Integer.parseInt(answer.substring(at + 1, end));
            all.add(answer.substring(end + 2, end + 2 + length));
            at = end + 2 + length + 2;
        }
        return all;
    }
}
