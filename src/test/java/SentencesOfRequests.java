/** REQUESTS and ANSWERS, sentence by sentence: the last bytes that are taken and the first that are refused. */
public final class SentencesOfRequests {
    private static final Check CHECK = new Check();
    private static final String PONG = "+PONG|";

    private static Scene says(String sentence, String... setup) {
        return new Scene(CHECK, sentence, setup);
    }

    /** Bytes that are no whole request and no fault yet: nothing is done, the connection stays open. */
    private static void waits(String sentence, String bytes) {
        says(sentence).comes(0, bytes, 0, "").isOpen(0, true);
    }

    /** The last of these bytes shows the fault, none ahead of it does; what is behind it is never looked at. */
    private static void faults(String sentence, String bytes, String fault) {
        Scene slow = says(sentence);
        for (int i = 0; i < bytes.length() - 1; i++) {
            slow.comes(0, bytes.substring(i, i + 1), 0, "").isOpen(0, true);
        }
        String answer = "-ERR protocol: " + fault + "|";
        slow.comes(0, bytes.substring(bytes.length() - 1), 0, answer).isOpen(0, false);
        says(sentence).comes(0, bytes + "PING\r\n", 0, answer).isOpen(0, false);
        says(sentence).comes(0, "PING\n" + bytes + "PING\r\n", 1, PONG + answer).isOpen(0, false);
    }

    /** Bytes that are requests, each with its answer, whether they come at once or one by one. */
    private static void takes(String sentence, String bytes, int done, String answers) {
        says(sentence).comes(0, bytes, done, answers).isOpen(0, true);
        Scene slow = says(sentence);
        int sum = 0;
        for (int i = 0; i < bytes.length(); i++) {
            sum += slow.client.send(0, bytes.substring(i, i + 1));
        }
        slow.due("byte by byte", sum, done).outputs(0, answers).isOpen(0, true);
    }

    private static void words() {
        StringBuilder all = new StringBuilder();
        for (int b = 0; b < 256; b++) {
            all.append((char) b);
        }
        Scene scene = says("A WORD is a row of bytes");
        scene.client.send(0, Client.star("ECHO", all.toString()));
        scene.due("all bytes", scene.client.taken(0), "$256\r\n" + all + "\r\n");
        scene.answers("ECHO ''", "$0||").answers("SET '' ''", "+OK|").answers("GET ''", "$0||");
    }

    private static void inputs() {
        Scene scene = says("Each of the CONNECTIONS 0 .. 3 is open or not, and has INPUT");
        for (int i = 0; i < 4; i++) {
            scene.isOpen(i, true).comes(i, "ECHO " + i, 0, "");
        }
        scene.steward.open(2);
        for (int i = 0; i < 4; i++) {
            scene.comes(i, i == 2 ? "PING\n" : "\n", 1, i == 2 ? PONG : "$1|" + i + "|");
        }
        scene.comes(1, "*x\r\n", 0, "-ERR protocol: count|").isOpen(1, false).isOpen(0, true).isOpen(2, true);
    }

    private static void wholeRequests() {
        String sentence = "As long as the input begins with a whole REQUEST, that is done and goes; what is left waits";
        String three = "PING\n*1\r\n$4\r\nPING\r\nPING a\r\n";
        for (int cut = 0; cut <= three.length(); cut++) {
            int done = cut < 5 ? 0 : cut < 19 ? 1 : cut < three.length() ? 2 : 3;
            says(sentence).comes(0, three.substring(0, cut), done, PONG.repeat(Math.min(done, 2)) + (done > 2 ? "$1|a|"
                    : ""))
                    .comes(0, three.substring(cut), 3 - done, PONG.repeat(Math.max(2 - done, 0)) + (done > 2 ? ""
                    : "$1|a|"));
        }
    }

    private static void starred() {
        String sentence = "a LINE of * ; then, as often as its number says, a LINE of $ , as many bytes as that says, "
                + "CR LF (13, 10)";
        takes(sentence, "*1\r\n$4\r\nPING\r\n", 1, PONG);
        takes(sentence, "*2\r\n$4\r\nECHO\r\n$0\r\n\r\n", 1, "$0||");
        takes(sentence, "*2\r\n$4\r\nECHO\r\n$7\r\na\r\n*1\r\n\r\n", 1, "$7|a|*1||");
        takes(sentence, "*3\r\n$3\r\nSET\r\n$1\r\nk\r\n$2\r\n$1\r\n*2\r\n$3\r\nGET\r\n$1\r\nk\r\n", 2, "+OK|$2|$1|");
        String bytes = "*2\r\n$4\r\nECHO\r\n$2\r\nab\r\n";
        for (int i = 1; i < bytes.length(); i++) {
            waits(sentence, bytes.substring(0, i));
        }
    }

    private static void headLines() {
        String sentence = "the number 1 to 6 digits, perhaps with - ahead";
        takes(sentence, "*1\r\n$4\r\nPING\r\n", 1, PONG);
        takes(sentence, "*000001\r\n$000004\r\nPING\r\n", 1, PONG);
        takes(sentence, "*-1\r\nPING\n", 1, PONG);
        takes(sentence, "*-999999\r\nPING\n", 1, PONG);
        takes(sentence, "*1\r\n$-000000\r\n\r\n", 1, "-ERR unknown|");
        faults(sentence, "*0000001\r\n", "count");
        faults(sentence, "*-0000001\r\n", "count");
        faults(sentence, "*\r\n", "count");
        faults(sentence, "*-\r\n", "count");
        faults(sentence, "*1\r\n$0000004\r\n", "length");
        faults(sentence, "*1\r\n$\r\n", "length");
        faults(sentence, "*1\r\n$-\r\n", "length");
    }

    private static void noWords() {
        String sentence = "With a number 0 or below for * there are no words";
        takes(sentence, "*0\r\nPING\n", 1, PONG);
        takes(sentence, "*-0\r\nPING\n", 1, PONG);
        takes(sentence, "*-1\r\nPING\n", 1, PONG);
        takes(sentence, "*-999999\r\n", 0, "");
        takes(sentence, "*000000\r\n*1\r\n$4\r\nPING\r\n", 1, PONG);
    }

    private static void plainLines() {
        String sentence = "all up to LF (10; one CR ahead of it goes), its words parted by blanks (32)";
        takes(sentence, "PING\n", 1, PONG);
        takes(sentence, "PING\r\n", 1, PONG);
        takes(sentence, "PING\r\r\n", 1, "-ERR unknown|");
        takes(sentence, "ECHO a\r\r\n", 1, "$2|a<13>|");
        takes(sentence, "ECHO a\rb\r\n", 1, "$3|a<13>b|");
        takes(sentence, "ECHO \r\n", 1, "-ERR arity|");
        takes(sentence, "ECHO \r \r\n", 1, "$1|<13>|");
        takes(sentence, "  ECHO   a  \n", 1, "$1|a|");
        takes(sentence, "ECHO a\tb\n", 1, "$3|a<9>b|");
        takes(sentence, " *1\r\n", 1, "-ERR unknown|");
        takes(sentence, "$4\r\nPING\r\n", 2, "-ERR unknown|" + PONG);
        takes(sentence, "ECHO *1\n", 1, "$2|*1|");
        // As many words as a line can have.
        says(sentence).comes(0, "EXISTS" + " k".repeat(1020) + "\n", 1, ":0|");
        says(sentence, "SET k v").comes(0, "EXISTS" + " k".repeat(1020) + "\n", 1, ":1020|");
        says(sentence).comes(0, "a" + " b".repeat(1023) + "\n", 1, "-ERR unknown|");
    }

    private static void requestsWithoutWords() {
        String sentence = "A request without words does nothing";
        for (String bytes : new String[] {"\n", "\r\n", " \n", "   \r\n", "*0\r\n", "*-7\r\n"}) {
            Scene scene = says(sentence, "SET k v", "WATCH k", "MULTI", "PING");
            String before = scene.state();
            scene.comes(0, bytes, 0, "").due("behind it", scene.state(), before).answers("EXEC", "*1|+PONG|");
        }
    }

    private static void toldAtOnce() {
        // Each fault is there with its last byte and no sooner; "faults" tries that of all of them.
        String sentence = "A FAULT is told as soon as the bytes that are there show it";
        faults(sentence, "*1025\r\n", "count");
        faults(sentence, "*1024\r\n$16385\r\n", "length");
        faults(sentence, "*1024\r\n!", "dollar");
        faults(sentence, "*1024\r\n$0\r\n!", "ending");
        faults(sentence, "a".repeat(2048), "line");
        // A word that isn't there yet may be ahead of what will show a fault.
        waits(sentence, "*2\r\n$5\r\n*x\r\n");
    }

    private static void longHeads() {
        String sentence = "a LINE whose CR LF is not within its first 16 bytes (from * or $ on; 16 being there)";
        waits(sentence, "*12345678901234");
        waits(sentence, "*1234567890123\r");
        waits(sentence, "*xxxxxxxxxxxxxx");
        faults(sentence, "*123456789012345", "count");
        faults(sentence, "*xxxxxxxxxxxxxx\n", "count");
        faults(sentence, "*12345678901234\r", "count");
        // The CR LF is the 15th and 16th byte: within them, but what is ahead of it is no number.
        faults(sentence, "*1234567890123\r\n", "count");
        waits(sentence, "*2\r\n$4\r\nECHO\r\n$12345678901234");
        faults(sentence, "*2\r\n$4\r\nECHO\r\n$123456789012345", "length");
        faults(sentence, "*2\r\n$4\r\nECHO\r\n$12345678901234\r", "length");
        faults(sentence, "*2\r\n$4\r\nECHO\r\n$1234567890123\r\n", "length");
    }

    private static void noHeads() {
        String sentence = "or that isn't such a LINE (its CR LF being there)";
        for (String bad : new String[] {"x", "+1", " 1", "1 ", "--1", "1-", "1.", "1\r1", "\n1", "1\n", "\r", "\u00b1",
            "1\u0000", "/", ":"}) {
            waits(sentence, "*" + bad);
            faults(sentence, "*" + bad + "\r\n", "count");
            waits(sentence, "*1\r\n$" + bad);
            faults(sentence, "*1\r\n$" + bad + "\r\n", "length");
        }
    }

    private static void counts() {
        String sentence = "or whose number is above 1024 (of * : fault count)";
        waits(sentence, "*1024\r\n");
        faults(sentence, "*1025\r\n", "count");
        faults(sentence, "*999999\r\n", "count");
        says(sentence, "SET k v").comes(0, "*1024\r\n$6\r\nEXISTS\r\n" + "$1\r\nk\r\n".repeat(1023), 1, ":1023|");
    }

    private static void lengths() {
        String sentence = "or below 0 or above 16384 (of $ : fault length)";
        takes(sentence, "*1\r\n$0\r\n\r\n", 1, "-ERR unknown|");
        waits(sentence, "*2\r\n$4\r\nECHO\r\n$16384\r\n");
        faults(sentence, "*1\r\n$-1\r\n", "length");
        faults(sentence, "*1\r\n$-999999\r\n", "length");
        faults(sentence, "*2\r\n$4\r\nECHO\r\n$-1\r\n", "length");
        faults(sentence, "*1\r\n$16385\r\n", "length");
        faults(sentence, "*1\r\n$999999\r\n", "length");
        String most = "m".repeat(16384);
        says(sentence).comes(0, Client.star("ECHO", most), 1, "$16384|" + most + "|");
    }

    private static void dollars() {
        String sentence = "another byte where $ must be (dollar)";
        faults(sentence, "*1\r\n4", "dollar");
        faults(sentence, "*1\r\n*", "dollar");
        faults(sentence, "*1\r\n\r", "dollar");
        faults(sentence, "*2\r\n$4\r\nECHO\r\nx", "dollar");
        faults(sentence, "*3\r\n$4\r\nECHO\r\n$1\r\na\r\n\u0000", "dollar");
    }

    private static void endings() {
        String sentence = "another one where CR or LF must be (ending)";
        faults(sentence, "*1\r\n$4\r\nPINGx", "ending");
        faults(sentence, "*1\r\n$4\r\nPING\n", "ending");
        faults(sentence, "*1\r\n$4\r\nPING\rx", "ending");
        faults(sentence, "*1\r\n$4\r\nPING\r\r", "ending");
        faults(sentence, "*1\r\n$0\r\n$", "ending");
        faults(sentence, "*2\r\n$4\r\nECHO\r\n$1\r\nab", "ending");
        faults(sentence, "*2\r\n$4\r\nECHO\r\n$0\r\n\rx", "ending");
        // The CR of a word that isn't all there yet is no fault.
        waits(sentence, "*1\r\n$4\r\nPIN");
        waits(sentence, "*1\r\n$4\r\nPING\r");
    }

    private static void longLines() {
        String sentence = "otherwise 2048 bytes without LF (line)";
        String most = "a".repeat(2047);
        says(sentence).comes(0, most, 0, "").isOpen(0, true).comes(0, "\n", 1, "-ERR unknown|").isOpen(0, true);
        says(sentence).comes(0, most, 0, "").comes(0, "a", 0, "-ERR protocol: line|").isOpen(0, false);
        says(sentence).comes(0, most + "a\n", 0, "-ERR protocol: line|").isOpen(0, false);
        says(sentence).comes(0, most + "\r\n", 0, "-ERR protocol: line|").isOpen(0, false);
        says(sentence).comes(0, most.substring(1) + "\r\n", 1, "-ERR unknown|").isOpen(0, true);
        says(sentence).comes(0, " ".repeat(2047) + "\n", 0, "").isOpen(0, true);
        says(sentence).comes(0, " ".repeat(2048), 0, "-ERR protocol: line|").isOpen(0, false);
        says(sentence).comes(0, "PING\n" + most + "\n" + most, 2, PONG + "-ERR unknown|").isOpen(0, true);
    }

    private static void faultsAnswer() {
        String sentence = "The answer is -ERR protocol: and the fault's word, a blank ahead of it, and the connection "
                + "closes";
        String[] rows = {"*x\r\n", "count", "*1\r\n$x\r\n", "length", "*1\r\nx", "dollar", "*1\r\n$0\r\nx", "ending",
            "a".repeat(2048), "line"};
        for (int i = 0; i < rows.length; i += 2) {
            Scene scene = says(sentence, "SET k v");
            scene.client.send(1, rows[i]);
            scene.due("bytes", scene.client.output(1), "-ERR protocol: " + rows[i + 1] + "\r\n");
            scene.isOpen(1, false).isOpen(0, true).due("not open", scene.client.send(1, "PING\n"), -1);
            scene.outputs(1, "-ERR protocol: " + rows[i + 1] + "|").answers("GET k", "$1|v|");
        }
    }

    private static void forms() {
        says("+text CR LF; -text CR LF; :number CR LF", "SET k v").answers("PING", "+PONG|").answers("EXEC",
                "-ERR none|")
                .answers("STRLEN k", ":1|").answers("TTL none", ":-2|").answers("INCRBY n -9223372036854775808",
                ":-9223372036854775808|");
        says("a WORD: $length CR LF bytes CR LF; NIL: $-1 CR LF", "SET k v", "SET e ''").answers("GET k", "$1|v|")
                .answers("GET e", "$0||").answers("GET none", "$-1|");
        says("a ROW: *count CR LF and so many answers; NILROW: *-1 CR LF", "RPUSH l a b").answers("LRANGE l 0 -1",
                "*2|$1|a|$1|b|")
                .answers("LRANGE l 5 6", "*0|").answers("LPOP none 1", "*-1|").answers("MULTI", "+OK|")
                .answers("LLEN l", "+QUEUED|")
                .answers("LPOP none 1", "+QUEUED|").answers("LRANGE l 0 0", "+QUEUED|").answers("EXEC",
                "*3|:2|*-1|*1|$1|a|");
    }

    /** A server whose connection 1 has so many bytes in its output. */
    private static Scene outputOf(String sentence, int bytes) {
        Scene scene = says(sentence);
        int left = bytes;
        while (left > 0) {
            int part = left > 32000 ? 16000 : left > 16000 ? left / 2 : left;
            String word = "x".repeat(part - 5 - ("" + part).length());
            int length = 5 + ("" + word.length()).length() + word.length();
            scene.client.send(1, Client.star("ECHO", word + "x".repeat(part - length)));
            left -= part;
        }
        return scene.due("output", scene.steward.out(1), bytes);
    }

    private static void fullOutput() {
        String sentence = "A connection's OUTPUT has room for 65536 bytes; when something does not fit, the output is "
                + "emptied of all, "
                + "and the connection closes";
        Scene full = outputOf(sentence, 65529);
        full.due("just fits", full.client.send(1, "PING\n"), 1).isOpen(1, true).due("all of it", full.steward.out(1),
                65536);
        full.due("nothing to say", full.client.send(1, "*0\r\n"), 0).isOpen(1, true);
        full.due("no byte more", full.client.send(1, "PING\n"), 1).isOpen(1, false).due("emptied", full.steward.out(1),
                0);
        Scene one = outputOf(sentence, 65530);
        one.due("a byte too many", one.client.send(1, "PING\n"), 1).isOpen(1, false).due("emptied", one.steward.out(1),
                0);
        one.due("opened", one.steward.open(1), true).by(1, "PING", PONG);
        Scene taken = outputOf(sentence, 65530);
        taken.steward.take(1, 1);
        taken.due("room again", taken.client.send(1, "PING\n"), 1).isOpen(1, true).due("all of it",
                taken.steward.out(1), 65536);
        // The same of a word, a row, a fault and QUIT.
        Scene row = outputOf(sentence, 65536 - 17);
        row.client.ask(0, "RPUSH l a b");
        row.due("row", row.client.send(1, "LRANGE l 0 -1\n"), 1).isOpen(1, false).due("emptied", row.steward.out(1), 0);
        Scene fits = outputOf(sentence, 65536 - 18);
        fits.client.ask(0, "RPUSH l a b");
        fits.due("row", fits.client.send(1, "LRANGE l 0 -1\n"), 1).isOpen(1, true).due("all of it", fits.steward.out(1),
                65536);
        Scene fault = outputOf(sentence, 65536 - 21);
        fault.due("fault", fault.client.send(1, "*x\r\n"), 0).isOpen(1, false).due("emptied", fault.steward.out(1), 0);
        Scene told = outputOf(sentence, 65536 - 22);
        told.due("fault", told.client.send(1, "*x\r\n"), 0).isOpen(1, false).due("all of it", told.steward.out(1),
                65536);
        Scene quit = outputOf(sentence, 65536 - 4);
        quit.due("quit", quit.client.send(1, "QUIT\n"), 1).isOpen(1, false).due("emptied", quit.steward.out(1), 0);
    }

    private static void doneAllTheSame() {
        String sentence = "(the commands of the request, or block, that is under way are done all the same)";
        Scene request = outputOf(sentence, 65536);
        request.due("of those that came", request.client.send(1, "INCR a\nINCR b\n"), 1).isOpen(1, false);
        request.answers("MGET a b", "*2|$1|1|$-1|").logIs("INCR a");
        Scene block = outputOf(sentence, 65536 - 50);
        block.by(0, "SUBSCRIBE c", "*3|$9|subscribe|$1|c|:1|");
        block.due("of those that came", block.client.send(1,
                "MULTI\nINCR a\nECHO 0123456789\nINCR b\nPUBLISH c v\nEXEC\nINCR d\n"), 6);
        block.isOpen(1, false).due("emptied", block.steward.out(1), 0).outputs(0, "*3|$7|message|$1|c|$1|v|");
        block.by(2, "MGET a b d", "*3|$1|1|$1|1|$-1|").logIs("MULTI;INCR a;INCR b;EXEC");
    }

    private static void closing() {
        String sentence = "A connection that closes forgets its input, block, watches and channels; its output stays "
                + "till it is opened anew";
        for (String close : new String[] {"QUIT\n", "*x\r\n"}) {
            Scene input = says(sentence);
            input.client.send(1, close + "ECHO rest");
            String left = input.client.output(1);
            input.isOpen(1, false).due("output stays", left.isEmpty(), false);
            input.due("not open", input.client.send(1, "\n"), -1).due("output stays", input.client.output(1), left);
            input.due("opened", input.steward.open(1), true).due("output", input.steward.out(1), 0).comes(1, "\n", 0,
                    "");
            Scene block = says(sentence);
            block.client.send(1, "MULTI\nSET k v\n" + close);
            block.steward.open(1);
            block.by(1, "EXEC", "-ERR none|").answers("EXISTS k", ":0|");
            Scene watches = says(sentence);
            watches.client.send(1, "WATCH k\n" + close);
            watches.client.ask(0, "SET k v");
            watches.steward.open(1);
            watches.by(1, "MULTI", "+OK|").by(1, "EXEC", "*0|");
            Scene channels = says(sentence);
            channels.client.send(1, "SUBSCRIBE c\n" + close);
            String told = channels.client.output(1);
            channels.answers("PUBLISH c v", ":0|").due("no message", channels.client.output(1), told);
            channels.steward.open(1);
            channels.answers("PUBLISH c v", ":0|").by(1, "GET k", "$-1|");
        }
    }

    public static void main(String[] args) {
        words();
        inputs();
        wholeRequests();
        starred();
        headLines();
        noWords();
        plainLines();
        requestsWithoutWords();
        toldAtOnce();
        longHeads();
        noHeads();
        counts();
        lengths();
        dollars();
        endings();
        longLines();
        faultsAnswer();
        forms();
        fullOutput();
        doneAllTheSame();
        closing();
        CHECK.end();
    }
}
