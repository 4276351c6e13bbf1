/** Counts and tells what isn't as due; CR LF is written as a bar. */
final class Check {
    private int wrong;

    void due(String what, Object got, Object want) {
        if (!got.equals(want)) {
            wrong++;
            System.out.println(what + ": is " + got + ", due is " + want);
        }
    }

    /** Requests, each with its answer, on one new object; "1:" and the like ahead of one tells its connection. */
    Client script(String... rows) {
        return script(new Client(), rows);
    }

    Client script(Client client, String... rows) {
        for (int i = 0; i + 1 < rows.length; i += 2) {
            boolean told = rows[i].matches("[0-3]:.*");
            int connection = told ? rows[i].charAt(0) - '0' : 0;
            String line = told ? rows[i].substring(2) : rows[i];
            due(rows[i], Client.shown(client.ask(connection, line)), rows[i + 1]);
        }
        return client;
    }

    /** What the last of some requests logs. */
    void logs(String want, String... lines) {
        Client client = new Client();
        for (int i = 0; i < lines.length - 1; i++) {
            client.ask(0, lines[i]);
        }
        int before = client.log().length();
        client.ask(0, lines[lines.length - 1]);
        String all = client.log();
        due("log of " + String.join("; ", lines), Client.shown(all.substring(before)), starred(want));
    }

    /** Lines of words as the log's requests are shown; words are parted by blanks, requests by ; . */
    static String starred(String lines) {
        StringBuilder all = new StringBuilder();
        for (String line : lines.split(";")) {
            if (!line.trim().isEmpty()) {
                all.append(Client.shown(Client.star(line.trim().split(" "))));
            }
        }
        return all.toString();
    }

    void end() {
        System.exit(wrong == 0 ? 0 : 1);
    }

    static String times(String part, int n) {
        StringBuilder all = new StringBuilder();
        for (int i = 0; i < n; i++) {
            all.append(part);
        }
        return all.toString();
    }
}
