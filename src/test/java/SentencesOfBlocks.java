/** The other commands, BLOCKS and CHANNELS, sentence by sentence. */
public final class SentencesOfBlocks {
    private static final Check CHECK = new Check();
    private static final String PONG = "+PONG|";
    private static final String EXEC = "EXEC";

    private static Scene says(String sentence, String... setup) {
        return new Scene(CHECK, sentence, setup);
    }

    private static String subscribed(String channel, int many) {
        return "*3|$9|subscribe|$" + channel.length() + "|" + channel + "|:" + many + "|";
    }

    private static String unsubscribed(String channel, int many) {
        return "*3|$11|unsubscribe|$" + channel.length() + "|" + channel + "|:" + many + "|";
    }

    private static String message(String channel, String word) {
        return "*3|$7|message|$" + channel.length() + "|" + channel + "|$" + word.length() + "|" + word + "|";
    }

    private static void ping() {
        says("PING [v]: +PONG or the word").keepsAll("PING", PONG, "PING a", "$1|a|", "PING ''", "$0||", "PING a b",
                "-ERR arity|");
        says("ECHO v").keepsAll("ECHO a", "$1|a|", "ECHO ''", "$0||", "ECHO", "-ERR arity|", "ECHO a b", "-ERR arity|");
    }

    private static void quit() {
        String sentence = "QUIT: +OK, and it closes";
        says(sentence, "SET k v").comes(1, "PING\nQUIT\nPING\nDEL k\n", 2, "+PONG|+OK|").isOpen(1, false).isOpen(0,
                true).answers("GET k", "$1|v|");
        says(sentence).comes(1, "quit\r\n", 1, "+OK|").isOpen(1, false);
        says(sentence).comes(1, "QUIT now\r\n", 1, "-ERR arity|").isOpen(1, true);
    }

    private static String keysOf(int from, int to) {
        StringBuilder all = new StringBuilder();
        for (int i = from; i < to; i++) {
            all.append(" k" + i);
        }
        return all.toString();
    }

    private static void watchMost() {
        String sentence = "WATCH k ... (at most 64 keys a connection, each once";
        says(sentence).holds("WATCH" + keysOf(0, 64), "+OK|", "WATCH k0 k63 k7", "+OK|", "WATCH k64", "-ERR full|",
                "UNWATCH", "+OK|", "WATCH k64", "+OK|");
        says(sentence).holds("WATCH" + keysOf(0, 65), "-ERR full|");
        says(sentence).holds("WATCH" + keysOf(0, 64) + keysOf(0, 64), "+OK|", "WATCH a", "-ERR full|");
        says(sentence).holds("WATCH" + keysOf(0, 63), "+OK|", "WATCH k5 a a a", "+OK|", "WATCH b", "-ERR full|");
        says(sentence).holds("WATCH" + keysOf(0, 64), "+OK|").by(1, "WATCH" + keysOf(64, 128), "+OK|").by(1, "WATCH k0",
                "-ERR full|");
        // The last one counts as the first does.
        for (String key : new String[] {"k0", "k31", "k63"}) {
            says(sentence).holds("WATCH" + keysOf(0, 64), "+OK|").by(1, "SET " + key + " v", "+OK|").holds("MULTI",
                    "+OK|", EXEC, "*-1|");
        }
    }

    private static void watchedSinceFirst() {
        String sentence = "watched since its first WATCH";
        says(sentence, "SET k v", "WATCH k").by(1, "SET k w", "+OK|").holds("WATCH k", "+OK|", "MULTI", "+OK|", EXEC,
                "*-1|");
        says(sentence, "SET k v").by(1, "SET k w", "+OK|").holds("WATCH k", "+OK|", "MULTI", "+OK|", EXEC, "*0|");
        says(sentence, "SET k v", "WATCH k").by(1, "SET k w", "+OK|").holds("WATCH j", "+OK|", "MULTI", "+OK|", EXEC,
                "*-1|");
    }

    private static void watchFull() {
        String sentence = "else -ERR full, and none of these";
        String many = "WATCH" + keysOf(0, 62);
        says(sentence, many).holds("WATCH a b c", "-ERR full|").by(1, "SET a v", "+OK|").by(1, "SET b v", "+OK|").by(1,
                "SET c v", "+OK|").holds("MULTI", "+OK|", EXEC, "*0|");
        says(sentence, many).holds("WATCH a b c", "-ERR full|", "WATCH a b", "+OK|").by(1, "SET a v", "+OK|")
                .holds("MULTI", "+OK|", EXEC, "*-1|");
        // Those ahead of it stay watched.
        says(sentence, many).holds("WATCH a b c", "-ERR full|").by(1, "SET k61 v", "+OK|").holds("MULTI", "+OK|", EXEC,
                "*-1|");
        says(sentence, many).holds("WATCH k0 a b c", "-ERR full|").by(1, "SET k0 v", "+OK|").holds("MULTI", "+OK|",
                EXEC, "*-1|");
    }

    private static void unwatch() {
        String sentence = "UNWATCH: +OK";
        says(sentence, "WATCH k").by(1, "SET k w", "+OK|").holds("UNWATCH", "+OK|", "MULTI", "+OK|", EXEC, "*0|");
        says(sentence).holds("UNWATCH", "+OK|");
        says(sentence, "WATCH k", "UNWATCH").by(1, "SET k w", "+OK|").holds("MULTI", "+OK|", EXEC, "*0|");
        says(sentence).by(1, "WATCH k", "+OK|").holds("UNWATCH", "+OK|", "SET k v", "+OK|").by(1, "MULTI", "+OK|").by(1,
                EXEC, "*-1|");
    }

    private static void time() {
        Scene scene = says("TIME: a row of now / 1000 and the rest, as words");
        scene.keeps("TIME", "*2|$1|0|$1|0|").passes(999, 0).keeps("TIME", "*2|$1|0|$3|999|").passes(1, 0).keeps("TIME",
                "*2|$1|1|$1|0|").passes(1050, 0).keeps("TIME", "*2|$1|2|$2|50|")
                .passes((1L << 52) - 2050, 0).keeps("TIME", "*2|$13|4503599627370|$3|496|");
    }

    private static void queued() {
        String sentence = "MULTI: +OK, and commands are QUEUED from then on (+QUEUED)";
        says(sentence).keeps("MULTI", "+OK|").keepsAll("SET k v", "+QUEUED|", "GET k", "+QUEUED|", "incr k", "+QUEUED|",
                "PUBLISH c v", "+QUEUED|", "UNWATCH", "+QUEUED|", "PING", "+QUEUED|", "TIME", "+QUEUED|",
                "SET k v no", "+QUEUED|", "INCRBY k x", "+QUEUED|").by(1, "GET k", "$-1|").keeps("DISCARD", "+OK|");
    }

    private static void atMost200() {
        String sentence = "at most 200; name, number of args, and whether there are more than 200 (-ERR full) are "
                + "looked at at once";
        Scene most = says(sentence);
        most.comes(0, "MULTI\n" + "INCR n\n".repeat(200), 201, "+OK|" + "+QUEUED|".repeat(200));
        StringBuilder answers = new StringBuilder("*200|");
        for (int i = 1; i <= 200; i++) {
            answers.append(":" + i + "|");
        }
        most.answers(EXEC, answers.toString()).answers("GET n", "$3|200|");
        Scene more = says(sentence);
        more.comes(0, "MULTI\n" + "INCR n\n".repeat(201), 202, "+OK|" + "+QUEUED|".repeat(200) + "-ERR full|")
                .answers(EXEC, "-EXECABORT|").answers("EXISTS n", ":0|");
        // What isn't queued doesn't count; a name that isn't there is told ahead of the number of commands.
        Scene others = says(sentence);
        others.comes(0, "MULTI\n" + "MULTI\nWATCH k\n".repeat(3) + "INCR n\n".repeat(200), 207, "+OK|"
                + "-ERR nested|-ERR watch|".repeat(3) + "+QUEUED|".repeat(200))
                .holds("MULTI", "-ERR nested|", "WATCH k", "-ERR watch|").answers(EXEC, answers.toString());
        Scene wrong = says(sentence);
        wrong.comes(0, "MULTI\n" + "INCR n\n".repeat(200), 201, "+OK|" + "+QUEUED|".repeat(200)).holds("NOSUCH",
                "-ERR unknown|", "GET", "-ERR arity|", "GET k", "-ERR full|", "DISCARD", "+OK|")
                .answers("MULTI", "+OK|").answers("PING", "+QUEUED|").answers(EXEC, "*1|+PONG|");
    }

    private static void spoilt() {
        String sentence = "(name and number of all commands): if not right the block is SPOILT";
        for (String bad : new String[] {"NOSUCH", "GET", "SET k", "MSET k", "PING a b", "EXEC x", "DISCARD x",
            "MULTI x", "WATCH", "QUIT x", "UNWATCH x", "SUBSCRIBE"}) {
            String answer = bad.equals("NOSUCH") ? "-ERR unknown|" : "-ERR arity|";
            says(sentence, "MULTI", "SET k v").answers(bad, answer).answers("SET j v", "+QUEUED|").answers(EXEC,
                    "-EXECABORT|").holds("EXISTS k j", ":0|", EXEC, "-ERR none|");
            says(sentence, "MULTI").answers(bad, answer).holds("DISCARD", "+OK|", "MULTI", "+OK|", "PING", "+QUEUED|",
                    EXEC, "*1|+PONG|");
            // Outside of a block nothing is spoilt by it.
            Scene outside = says(sentence);
            outside.answers(bad, answer).holds("MULTI", "+OK|", EXEC, "*0|");
        }
    }

    private static void notQueued() {
        String sentence = "Not queued: EXEC, DISCARD (+OK: the block is gone, and all watches), MULTI (-ERR nested), "
                + "WATCH (-ERR watch), QUIT (as ever)";
        says(sentence, "MULTI", "SET k v").keeps("DISCARD", "+OK|").holds(EXEC, "-ERR none|", "EXISTS k", ":0|");
        says(sentence, "WATCH k", "MULTI").by(1, "SET k v", "+OK|").holds("DISCARD", "+OK|", "MULTI", "+OK|", EXEC,
                "*0|");
        says(sentence, "WATCH k", "MULTI", "DISCARD").by(1, "SET k v", "+OK|").holds("MULTI", "+OK|", EXEC, "*0|");
        says(sentence, "MULTI", "PING").answers("MULTI", "-ERR nested|").answers(EXEC, "*1|+PONG|");
        says(sentence, "MULTI", "PING").answers("WATCH k", "-ERR watch|").by(1, "SET k v", "+OK|").answers(EXEC,
                "*1|+PONG|");
        says(sentence, "MULTI").comes(0, "SET k v\nQUIT\nEXEC\n", 2, "+QUEUED|+OK|").isOpen(0, false).by(1, "EXISTS k",
                ":0|");
    }

    private static void refusedThere() {
        String sentence = "SUBSCRIBE and UNSUBSCRIBE are refused there (-ERR mode, the block is spoilt)";
        for (String line : new String[] {"SUBSCRIBE c", "UNSUBSCRIBE c", "UNSUBSCRIBE"}) {
            says(sentence, "MULTI", "SET k v").answers(line, "-ERR mode|").by(1, "PUBLISH c v", ":0|").answers(EXEC,
                    "-EXECABORT|").holds("EXISTS k", ":0|", "PING", PONG);
        }
    }

    private static void exec() {
        String sentence = "EXEC: spoilt: -EXECABORT; a watched key was CHANGED since it was watched";
        says(sentence, "WATCH k", "MULTI", "SET j v").by(1, "SET k v", "+OK|").answers("NOSUCH", "-ERR unknown|")
                .answers(EXEC, "-EXECABORT|");
        says(sentence, "WATCH k", "MULTI", "SET j v").by(1, "SET k v", "+OK|").answers(EXEC, "*-1|").answers("EXISTS j",
                ":0|");
        // Its own changes count as those of others.
        says(sentence, "WATCH k", "SET k v", "MULTI", "PING").answers(EXEC, "*-1|");
    }

    private static void execAnswers() {
        String sentence = "else a row of the answers of all, in order, whatever they are";
        says(sentence, "MULTI").answers(EXEC, "*0|");
        says(sentence, "MULTI", "SET k v", "LPUSH k a", "GET k", "INCRBY k x", "LPOP none 1", "MGET k none",
                "SET k v no", "EXISTS k", "GET none", "PING", "PING x")
                .answers(EXEC, "*11|+OK|-WRONGTYPE|$1|v|-ERR integer|*-1|*2|$1|v|$-1|-ERR syntax|:1|$-1|+PONG|$1|x|");
        // What it changes itself when it runs is no matter.
        says(sentence, "WATCH k", "MULTI", "SET k v", "SET k w").answers(EXEC, "*2|+OK|+OK|");
    }

    private static void changedKeys() {
        String sentence = "(by anybody, also that it came or went, or its time changed)";
        String[] setup = {"SET k v PX 500", "SET j v", "WATCH k none j"};
        String[] changes = {"SET none v", "DEL k", "PEXPIRE k 500", "PERSIST k", "EXPIRE j 5", "GETDEL k", "RENAME k x",
            "RENAME x none", "FLUSHALL", "PEXPIRE k -1", "SET k v KEEPTTL", "SETEX j 5 v"};
        for (String line : changes) {
            says(sentence, setup).by(1, "SET x v", "+OK|").answers("MULTI", "+OK|").by(1, line,
                    line.startsWith("SET") || line.startsWith("RENAME") || line.startsWith("FLUSH") ? "+OK|"
                    : line.startsWith("GETDEL") ? "$1|v|" : ":1|").answers(EXEC, "*-1|");
            says(sentence, setup).by(1, "SET x v", "+OK|").holds("SET y v", "+OK|", "MULTI", "+OK|", EXEC, "*0|");
        }
        says(sentence, setup).passes(499, 0).holds("MULTI", "+OK|", EXEC, "*0|");
        says(sentence, setup).passes(500, 1).holds("MULTI", "+OK|", EXEC, "*-1|");
        says(sentence, "WATCH k").by(1, "SET k v", "+OK|").by(1, "DEL k", ":1|").holds("MULTI", "+OK|", EXEC, "*-1|");
        // By a block of another connection.
        says(sentence, "WATCH k", "MULTI").by(1, "MULTI", "+OK|").by(1, "SET k v", "+QUEUED|").by(1, EXEC, "*1|+OK|")
                .answers(EXEC, "*-1|");
        says(sentence, "WATCH k", "MULTI").by(1, "MULTI", "+OK|").by(1, "SET k v", "+QUEUED|").by(1, "DISCARD", "+OK|")
                .answers(EXEC, "*0|");
    }

    private static void goneThen() {
        String sentence = "The block and all watches are gone then";
        String[] ends = {"-EXECABORT|", "*-1|", "*1|+PONG|"};
        for (int i = 0; i < ends.length; i++) {
            Scene scene = says(sentence, "WATCH k", "MULTI", "PING");
            if (i == 0) {
                scene.answers("NOSUCH", "-ERR unknown|");
            } else if (i == 1) {
                scene.by(1, "SET k w", "+OK|");
            }
            scene.answers(EXEC, ends[i]).answers(EXEC, "-ERR none|").by(1, "SET k v", "+OK|").holds("MULTI", "+OK|",
                    EXEC, "*0|", "WATCH" + keysOf(0, 64), "+OK|");
        }
    }

    private static void withoutBlock() {
        String sentence = "EXEC, DISCARD without a block: -ERR none";
        says(sentence).keepsAll(EXEC, "-ERR none|", "DISCARD", "-ERR none|");
        // The watches stay then.
        says(sentence, "WATCH k").holds(EXEC, "-ERR none|", "DISCARD", "-ERR none|").by(1, "SET k v", "+OK|")
                .holds("MULTI", "+OK|", EXEC, "*-1|");
    }

    private static void subscribe() {
        String sentence = "SUBSCRIBE answers for each c a row of the word subscribe, c, and how many channels (a "
                + "number) the connection has then (one that it has: as ever";
        says(sentence).keeps("SUBSCRIBE a", subscribed("a", 1)).answers("SUBSCRIBE c b c a", subscribed("c",
                2) + subscribed("b", 3) + subscribed("c", 3) + subscribed("a", 3))
                .answers("SUBSCRIBE ''", subscribed("", 4)).by(1, "SUBSCRIBE a", subscribed("a", 1));
    }

    private static void subscribeMost() {
        String sentence = "a 33rd: -ERR full in its place)";
        StringBuilder answers = new StringBuilder();
        for (int i = 0; i < 32; i++) {
            answers.append(subscribed("k" + i, i + 1));
        }
        says(sentence).answers("SUBSCRIBE" + keysOf(0, 32), answers.toString()).answers("SUBSCRIBE k0 x k31",
                subscribed("k0", 32) + "-ERR full|" + subscribed("k31", 32)).by(1, "PUBLISH x v", ":0|")
                .answers("UNSUBSCRIBE k5", unsubscribed("k5", 31)).answers("SUBSCRIBE x y", subscribed("x", 32)
                + "-ERR full|").by(1, "PUBLISH x v", ":1|").by(1, "PUBLISH y v", ":0|");
        says(sentence).answers("SUBSCRIBE" + keysOf(0, 34), answers + "-ERR full|-ERR full|").isOpen(0, true);
    }

    private static void unsubscribe() {
        String sentence = "UNSUBSCRIBE likewise (also of those that it hasn't; without c: of all it has, rising; NIL "
                + "and 0 if there are none)";
        String none = "*3|$11|unsubscribe|$-1|:0|";
        says(sentence).keepsAll("UNSUBSCRIBE", none, "UNSUBSCRIBE x", unsubscribed("x", 0), "UNSUBSCRIBE x ''",
                unsubscribed("x", 0) + unsubscribed("", 0));
        Scene scene = says(sentence);
        scene.ask(0, "SUBSCRIBE b a c aa");
        scene.answers("UNSUBSCRIBE x b b", unsubscribed("x", 4) + unsubscribed("b", 3) + unsubscribed("b", 3)).by(1,
                "PUBLISH b v", ":0|").by(1, "PUBLISH a v", ":1|").outputs(0, message("a", "v"));
        scene.client.taken(0);
        scene.answers("UNSUBSCRIBE", unsubscribed("a", 2) + unsubscribed("aa", 1) + unsubscribed("c", 0))
                .answers("UNSUBSCRIBE", none).answers("GET k", "$-1|").by(1, "PUBLISH a v", ":0|");
    }

    private static void mode() {
        String sentence = "One with channels may do these, PING and QUIT alone (-ERR mode)";
        Scene scene = says(sentence, "SET k v");
        scene.ask(0, "SUBSCRIBE c");
        scene.keepsAll("GET k", "-ERR mode|", "DEL k", "-ERR mode|", "MULTI", "-ERR mode|", EXEC, "-ERR mode|",
                "DISCARD", "-ERR mode|", "WATCH k", "-ERR mode|", "UNWATCH", "-ERR mode|", "PUBLISH c v", "-ERR mode|",
                "ECHO v", "-ERR mode|", "TIME", "-ERR mode|", "FLUSHALL", "-ERR mode|", "SET k v no", "-ERR mode|",
                "INCRBY k x", "-ERR mode|", "PING", PONG, "PING v", "$1|v|");
        scene.answers("SUBSCRIBE d", subscribed("d", 2)).answers("UNSUBSCRIBE d", unsubscribed("d", 1)).by(1, "GET k",
                "$1|v|").answers("UNSUBSCRIBE", unsubscribed("c", 0)).answers("GET k", "$1|v|");
        Scene quits = says(sentence);
        quits.ask(0, "SUBSCRIBE c");
        quits.answers("QUIT", "+OK|").isOpen(0, false);
        // What it watched it goes on watching.
        says(sentence, "WATCH k", "SUBSCRIBE c").by(1, "SET k v", "+OK|").answers("UNSUBSCRIBE", unsubscribed("c", 0))
                .holds("MULTI", "+OK|", EXEC, "*-1|");
    }

    private static void publish() {
        String sentence = "PUBLISH: each connection that has the channel, by number, gets a row of the words message, "
                + "c, v";
        Scene scene = says(sentence);
        for (int i = 1; i < 4; i++) {
            scene.ask(i, "SUBSCRIBE c" + (i == 2 ? " d" : ""));
        }
        scene.answers("PUBLISH c hi", ":3|").answers("PUBLISH d ''", ":1|").answers("PUBLISH e v", ":0|")
                .answers("PUBLISH C v", ":0|").outputs(1, message("c", "hi"))
                .outputs(2, message("c", "hi") + message("d", "")).outputs(3, message("c", "hi")).outputs(0, "")
                .logIs("");
    }

    private static void howManyHadIt() {
        Scene scene = says("how many had it");
        for (int i = 0; i < 4; i++) {
            scene.by(3, "PUBLISH c v", ":" + i + "|");
            scene.ask(i, "SUBSCRIBE c");
        }
        scene.ask(3, "UNSUBSCRIBE");
        scene.client.send(1, "QUIT\n");
        scene.by(3, "PUBLISH c v", ":2|").by(3, "PUBLISH d v", ":0|");
    }

    private static void publishInBlock() {
        String sentence = "(when the command runs, in a block ahead of its answer";
        Scene scene = says(sentence, "MULTI", "PUBLISH c 1", "SET k v", "PUBLISH c 2");
        scene.ask(1, "SUBSCRIBE c");
        scene.outputs(1, "").answers(EXEC, "*3|:1|+OK|:1|").outputs(1, message("c", "1") + message("c", "2"));
        Scene discarded = says(sentence, "MULTI", "PUBLISH c 1");
        discarded.ask(1, "SUBSCRIBE c");
        discarded.answers("DISCARD", "+OK|").outputs(1, "");
    }

    private static void publishWithoutRoom() {
        String sentence = "one whose output has no room closes at once)";
        // A message of a word of 16384 bytes: 16418 bytes; three leave room for 16282.
        Scene scene = says(sentence);
        scene.ask(1, "SUBSCRIBE c d");
        scene.ask(2, "SUBSCRIBE c");
        String word = "x".repeat(16384);
        for (int i = 0; i < 3; i++) {
            scene.answers("PUBLISH c " + word, ":2|");
            scene.client.taken(2);
        }
        int left = 65536 - scene.steward.out(1);
        String fits = "y".repeat(left - 34);
        scene.answers("PUBLISH c " + fits, ":2|").due("just full", scene.steward.out(1), 65536).isOpen(1, true);
        scene.answers("PUBLISH d ''", ":1|").due("emptied", scene.steward.out(1), 0).isOpen(1, false).isOpen(2, true);
        scene.answers("PUBLISH c v", ":1|").answers("PUBLISH d v", ":0|").due("opened", scene.steward.open(1), true)
                .by(1, "PING", PONG).answers("PUBLISH d v", ":0|");
        Scene block = says(sentence);
        block.ask(1, "SUBSCRIBE c");
        for (int i = 0; i < 3; i++) {
            block.answers("PUBLISH c " + word, ":1|");
        }
        block.answers("MULTI", "+OK|").answers("PUBLISH c " + word, "+QUEUED|").answers("PUBLISH c v", "+QUEUED|")
                .answers(EXEC, "*2|:1|:0|").isOpen(1, false).due("emptied", block.steward.out(1), 0);
    }

    public static void main(String[] args) {
        ping();
        quit();
        watchMost();
        watchedSinceFirst();
        watchFull();
        unwatch();
        time();
        queued();
        atMost200();
        spoilt();
        notQueued();
        refusedThere();
        exec();
        execAnswers();
        changedKeys();
        goneThen();
        withoutBlock();
        subscribe();
        subscribeMost();
        unsubscribe();
        mode();
        publish();
        howManyHadIt();
        publishInBlock();
        publishWithoutRoom();
        CHECK.end();
    }
}
