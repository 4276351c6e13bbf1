import java.lang.reflect.Field;
import java.lang.reflect.Method;
import java.lang.reflect.Modifier;
import java.util.Arrays;
import java.util.NoSuchElementException;
import java.util.TreeSet;

/** Promises 1 to 20, sentence by sentence: the last call that is taken and the first that is refused. */
public final class SentencesOfTheFace {
    private static final Check CHECK = new Check();
    private static final String PONG = "+PONG|";

    private static Scene says(String sentence, String... setup) {
        return new Scene(CHECK, sentence, setup);
    }

    private static void face() throws ReflectiveOperationException {
        Scene scene = says("public final class KeySteward");
        TreeSet<String> want = new TreeSet<>(Arrays.asList("boolean feed(int,int,int,int,int)", "boolean end(int)",
                "int send(int)", "boolean open(int)", "boolean isOpen(int)", "int out(int)", "int outAt(int,int)",
                "boolean take(int,int)", "int pass(long)", "long now()", "void fuse(int)", "boolean crash()",
                "int restart()", "int rewrite()", "int log()", "int logAt(int)", "boolean tear(int)", "boolean isUp()",
                "int total(int)"));
        TreeSet<String> got = new TreeSet<>();
        for (Method method : KeySteward.class.getDeclaredMethods()) {
            if (!Modifier.isPrivate(method.getModifiers())) {
                String types = Arrays.toString(Arrays.stream(method.getParameterTypes()).map(Class::getName).toArray());
                got.add(method.getReturnType() + " " + method.getName() + types.replace("[", "(").replace("]", ")")
                        .replace(" ", ""));
                scene.due(method.getName() + " is public", Modifier.isPublic(method.getModifiers())
                        && !Modifier.isStatic(method.getModifiers()), true);
            }
        }
        scene.due("methods", got, want).due("final", Modifier.isFinal(KeySteward.class.getModifiers()), true)
                .due("constructors", KeySteward.class.getDeclaredConstructors().length, 1);
        for (Field field : KeySteward.class.getDeclaredFields()) {
            scene.due(field.getName() + " is private", Modifier.isPrivate(field.getModifiers()), !field.getName()
                    .equals("NONE"));
        }
        for (String name : new String[] {"outAt", "logAt"}) {
            Method method = name.equals("outAt") ? KeySteward.class.getMethod(name, int.class, int.class)
                    : KeySteward.class.getMethod(name, int.class);
            scene.due(name + " throws", method.getExceptionTypes()[0] == NoSuchElementException.class, true);
        }
    }

    private static void newObject() {
        Scene scene = says("1: No keys, an empty log, all connections open, time 0, a fuse that never goes; the tape "
                + "is empty");
        scene.due("NONE", KeySteward.NONE, -1).totals(0, 0, 0).due("log", scene.steward.log(), 0).due("now",
                scene.steward.now(), 0L).due("up", scene.steward.isUp(), true).due("tape", scene.steward.end(1), false);
        for (int i = 0; i < 4; i++) {
            scene.isOpen(i, true).outputs(i, "");
        }
        scene.due("nothing comes", scene.steward.send(0), 0).answers("KEYS *", "*0|").answers("SET k "
                + "v".repeat(16384), "+OK|").due("up", scene.steward.isUp(), true);
        // One object knows nothing of another.
        says("1: No keys").totals(0, 0, 0).answers("GET k", "$-1|");
    }

    private static void feedBytes() {
        Scene scene = says("2: Appends twenty bytes to the tape, of each number the highest first");
        // ECHO and twenty bytes that begin with 0xFF 0x80 0x00 0x01.
        scene.client.load("*2\r\n$4\r\nECHO\r\n$20\r\n");
        scene.due("feed", scene.steward.feed(0xFF800001, 0x7FFFFFFF, 0x80000000, 0, -2), true).due("feed",
                scene.steward.feed(0x0D0A5049, 0x4E470A00, 0, 0, 0), true);
        int head = "*2\r\n$4\r\nECHO\r\n$20\r\n".length();
        scene.due("end", scene.steward.end(head + 27), true).due("send", scene.steward.send(0), 2);
        scene.due("bytes", scene.client.output(0),
                "$20\r\n\u00ff\u0080\u0000\u0001\u007f\u00ff\u00ff\u00ff\u0080\u0000\u0000\u0000"
                        + "\u0000\u0000\u0000\u0000\u00ff\u00ff\u00ff\u00fe\r\n+PONG\r\n");
    }

    /** A server whose tape has so many bytes: requests without words, PING and what is left. */
    private static Scene taped(String sentence, int bytes) {
        Scene scene = says(sentence);
        scene.client.load("*0\r\n".repeat((bytes - 6) / 4) + "PING\r\n" + " ".repeat((bytes - 6) % 4));
        return scene.due("tape", scene.steward.end(bytes + 1), false);
    }

    private static void feedMost() {
        String sentence = "2: false, changing nothing, when it would have more than 65540";
        for (int bytes : new int[] {65500, 65520, 65521, 65530, 65539, 65540}) {
            Scene scene = taped(sentence, bytes);
            boolean fits = bytes <= 65520;
            scene.due("feed at " + bytes, scene.steward.feed(0x0A50494E, 0x470A5049, 0x4E470A50, 0x494E470A,
                    0x50494E47), fits).due("all there", scene.steward.end(bytes + 20), fits);
            if (!fits) {
                scene.due("not so many", scene.steward.end(bytes + 1), false).due("as it was", scene.steward.end(bytes),
                        true);
            }
            scene.due("send at " + bytes, scene.steward.send(0), fits ? 4 : 1).outputs(0, PONG.repeat(fits ? 4 : 1));
        }
        KeySteward full = new KeySteward();
        int fed = 0;
        while (fed < 5000 && full.feed(fed, fed, fed, fed, fed)) {
            fed++;
        }
        says(sentence).due("so often", fed, 3277).due("all there", full.end(65540), true).due("no more",
                full.end(65541), false).due("still full", full.feed(0, 0, 0, 0, 0), false);
    }

    private static void end() {
        String sentence = "3: Of the tape only the first n bytes count; false, changing nothing, when it has not so "
                + "many, or n is below 0";
        for (int n : new int[] {-1, Integer.MIN_VALUE, 13, 20, 21, Integer.MAX_VALUE}) {
            Scene scene = says(sentence);
            scene.client.load("PING\nPING a\n");
            scene.due("end " + n, scene.steward.end(n), false).due("send", scene.steward.send(0), 2).outputs(0, PONG
                    + "$1|a|");
        }
        int[] done = {0, 0, 0, 0, 0, 1, 1, 1, 1, 1, 1, 1, 2};
        for (int n = 0; n <= 12; n++) {
            Scene scene = says(sentence);
            scene.client.load("PING\nPING a\n");
            scene.due("end " + n, scene.steward.end(n), true).due("more than " + n, scene.steward.end(n + 1), false)
                    .due("again " + n, scene.steward.end(n), true).due("send " + n, scene.steward.send(0), done[n]);
        }
        Scene behind = says(sentence);
        behind.client.load("PING\nxxxxxxxx");
        behind.due("end", behind.steward.end(5), true).due("what is fed then is behind them",
                behind.steward.feed(0x50494E47, 0x0A000000, 0, 0, 0), true).due("end", behind.steward.end(10), true)
                .due("send", behind.steward.send(0), 2);
        says(sentence).due("an empty tape", new KeySteward().end(0), true).due("an empty tape", new KeySteward().end(1),
                false);
    }

    private static void sendTape() {
        String sentence = "4: The tape's bytes come to a connection (the tape is empty then; so it is below, in any "
                + "case)";
        Scene scene = says(sentence);
        scene.client.load("PING\nPI");
        scene.due("send", scene.steward.send(0), 1).due("empty", scene.steward.end(1), false).outputs(0, PONG)
                .outputs(1, "").due("nothing comes", scene.steward.send(1), 0).outputs(1, "");
        for (int connection : new int[] {-1, 4, Integer.MIN_VALUE, Integer.MAX_VALUE}) {
            scene.client.load("PING\n");
            scene.due("none " + connection, scene.steward.send(connection), -1).due("empty", scene.steward.end(1),
                    false);
        }
        scene.client.send(2, "QUIT\n");
        scene.client.load("PING\n");
        scene.due("not open", scene.steward.send(2), -1).due("empty", scene.steward.end(1), false);
        scene.steward.fuse(0);
        scene.client.load("SET k v\n");
        scene.due("stopped", scene.steward.send(1), -1).due("empty", scene.steward.end(1), false);
        scene.client.load("PING\n");
        scene.due("down", scene.steward.send(1), -1).due("empty", scene.steward.end(1), false);
        // A tape that was fed ahead of a crash or a restart stays.
        scene.client.load("PING\n");
        scene.steward.restart();
        scene.steward.open(1);
        scene.due("behind a restart", scene.steward.send(1), 1).outputs(1, PONG);
    }

    private static void sendCounts() {
        String sentence = "4: how many requests with words were done (refused and queued ones, too; a fault's isn't)";
        says(sentence).comes(0, "", 0, "").comes(0, "PING\n", 1, PONG).comes(0, "\n*0\r\n \n*-1\r\n", 0, "").comes(0,
                "NOSUCH\nGET\nSET k v no\nINCRBY k x\n", 4, "-ERR unknown|-ERR arity|-ERR syntax|-ERR integer|")
                .comes(0, "MULTI\nPING\nMULTI\nEXEC\nEXEC\n", 5, "+OK|+QUEUED|-ERR nested|*1|+PONG|-ERR none|").comes(0,
                "SUBSCRIBE c\nGET k\nUNSUBSCRIBE\n", 3,
                "*3|$9|subscribe|$1|c|:1|-ERR mode|*3|$11|unsubscribe|$1|c|:0|").comes(0, "PI", 0, "").comes(0,
                "NG\nPI", 1, PONG).comes(0, "NG\nQUIT\nPING\n", 2, PONG + "+OK|");
        says(sentence).comes(0, "PING\n*x\r\nPING\n", 1, PONG + "-ERR protocol: count|");
        says(sentence).comes(0, "*x\r\n", 0, "-ERR protocol: count|");
    }

    private static void sendNone() {
        String sentence = "4: NONE when there is no such connection, it isn't open, the server is down, or it stopped "
                + "in them";
        Scene scene = says(sentence, "SET k v");
        for (int connection : new int[] {-1, 4, Integer.MIN_VALUE, Integer.MAX_VALUE}) {
            String before = scene.state();
            scene.client.load("DEL k\n");
            scene.due("none " + connection, scene.steward.send(connection), -1).due("behind it", scene.state(), before);
        }
        for (int i = 0; i < 4; i++) {
            scene.due("there is " + i, scene.client.send(i, "PING\n"), 1);
        }
        scene.client.send(1, "QUIT\n");
        String before = scene.state();
        scene.due("not open", scene.client.send(1, "DEL k\n"), -1).due("behind it", scene.state(), before);
        scene.steward.fuse(30);
        scene.due("fits", scene.client.send(0, "SET a b\n"), 1).due("stopped", scene.client.send(0,
                "PING\nSET a b\nPING\n"), -1).due("down", scene.client.send(0, "PING\n"), -1);
    }

    private static void longInput() {
        String sentence = "4: An input of more than 65536 bytes behind them: the connection closes";
        // A request of five words: whole it has 65536 bytes and more, so that it waits till its last byte.
        String head = "*5\r\n$6\r\nEXISTS\r\n" + ("$16384\r\n" + "k".repeat(16384) + "\r\n").repeat(3);
        String last = "$16384\r\n" + "k".repeat(16384) + "\r\n";
        int left = 65536 - head.length();
        says(sentence).comes(0, head, 0, "").comes(0, last.substring(0, left), 0, "").isOpen(0, true).comes(0,
                last.substring(left), 1, ":0|").isOpen(0, true);
        says(sentence).comes(0, head, 0, "").comes(0, last.substring(0, left + 1), 0, "").isOpen(0, false);
        Scene once = says(sentence);
        once.client.load(head + last.substring(0, left));
        once.due("at once", once.steward.send(0), 0).isOpen(0, true);
        Scene more = says(sentence);
        more.client.load(head + last.substring(0, left + 1));
        more.due("at once", more.steward.send(0), 0).isOpen(0, false).outputs(0, "");
        // What counts is what is left behind those that were done.
        Scene behind = says(sentence);
        behind.client.load("*0\r\n" + head + last.substring(0, left));
        behind.due("behind one without words", behind.steward.send(0), 0).isOpen(0, true);
        Scene wholly = says(sentence, "SET " + "k".repeat(16384) + " v");
        wholly.comes(0, head, 0, "").comes(0, last + "PING\n", 2, ":4|" + PONG).isOpen(0, true);
        // The output stays, the input doesn't.
        Scene closed = says(sentence);
        closed.client.load("PING\n" + head);
        closed.due("one is done", closed.steward.send(0), 1);
        closed.due("too many", closed.client.send(0, last.substring(0, left + 1)), 0).isOpen(0, false).outputs(0, PONG)
                .due("opened", closed.steward.open(0), true).answers("PING", PONG);
    }

    private static void open() {
        String sentence = "5: A connection is opened anew (one that is open closes first): its output is empty. False "
                + "when there is none, or the server is down";
        for (int i = 0; i < 4; i++) {
            Scene scene = says(sentence);
            scene.client.send(i, "WATCH k\nMULTI\nPING\nPI");
            scene.due("open", scene.steward.open(i), true).outputs(i, "").isOpen(i, true).comes(i, "NG\nPING\n", 2,
                    "-ERR unknown|" + PONG).by(i, "EXEC", "-ERR none|");
            scene.by((i + 1) % 4, "SET k v", "+OK|").by(i, "MULTI", "+OK|").by(i, "EXEC", "*0|");
            scene.ask(i, "SUBSCRIBE c");
            scene.due("open", scene.steward.open(i), true).by((i + 1) % 4, "PUBLISH c v", ":0|").by(i, "GET k",
                    "$1|v|");
            scene.client.send(i, "QUIT\n");
            scene.isOpen(i, false).outputs(i, "+OK|").due("open", scene.steward.open(i), true).outputs(i, "").isOpen(i,
                    true);
        }
        Scene none = says(sentence, "MULTI");
        String before = none.state();
        for (int connection : new int[] {-1, 4, Integer.MIN_VALUE, Integer.MAX_VALUE}) {
            none.due("none " + connection, none.steward.open(connection), false).due("behind it", none.state(), before);
        }
        none.answers("EXEC", "*0|");
        none.steward.crash();
        for (int i = -1; i < 5; i++) {
            none.due("down " + i, none.steward.open(i), false).isOpen(i, false);
        }
    }

    private static void isOpen() {
        String sentence = "6: Whether a connection is open";
        Scene scene = says(sentence).isOpen(-1, false).isOpen(4, false).isOpen(Integer.MIN_VALUE, false)
                .isOpen(Integer.MAX_VALUE, false).isOpen(0, true).isOpen(3, true);
        scene.client.send(3, "QUIT\n");
        scene.isOpen(3, false).isOpen(2, true);
        scene.steward.crash();
        scene.isOpen(0, false).isOpen(3, false);
        scene.steward.restart();
        scene.isOpen(0, false).isOpen(3, false);
    }

    private static void out() {
        String sentence = "7: How many bytes a connection's output has; NONE when there is none such";
        Scene scene = says(sentence);
        for (int connection : new int[] {-1, 4, Integer.MIN_VALUE, Integer.MAX_VALUE}) {
            scene.due("none " + connection, scene.steward.out(connection), -1);
        }
        scene.due("empty", scene.steward.out(3), 0);
        scene.client.send(3, "PING\nPING\n");
        scene.due("two", scene.steward.out(3), 14).due("other", scene.steward.out(2), 0);
        scene.client.send(3, "QUIT\n");
        scene.due("closed", scene.steward.out(3), 19);
        scene.steward.crash();
        scene.due("down", scene.steward.out(3), 0).due("none", scene.steward.out(4), -1);
    }

    private static void outAt() {
        String sentence = "8: Byte i of it, 0 .. 255. NoSuchElementException: there is none";
        Scene scene = says(sentence);
        String all = "";
        for (int b = 0; b < 256; b++) {
            all += (char) b;
        }
        scene.client.send(1, Client.star("ECHO", all));
        int size = scene.steward.out(1);
        scene.due("size", size, 264).due("first", scene.steward.outAt(1, 0), (int) '$').due("last",
                scene.steward.outAt(1, size - 1), 10);
        for (int b = 0; b < 256; b++) {
            scene.due("byte " + b, scene.steward.outAt(1, 6 + b), b);
        }
        int[][] none = {{1, -1}, {1, size}, {1, Integer.MAX_VALUE}, {1, Integer.MIN_VALUE}, {0, 0}, {2, 0}, {-1, 0}, {4,
                0}, {Integer.MIN_VALUE, 0}, {Integer.MAX_VALUE, 0}};
        for (int[] place : none) {
            scene.due(place[0] + " at " + place[1], scene.client.lacksOut(place[0], place[1]), true);
        }
        scene.steward.take(1, 6);
        scene.due("behind what went", scene.steward.outAt(1, 0), 0).due("the last", scene.steward.outAt(1, size - 7),
                10).due("none", scene.client.lacksOut(1, size - 6), true);
        scene.steward.crash();
        scene.due("down", scene.client.lacksOut(1, 0), true);
    }

    private static void take() {
        String sentence = "9: The first n bytes of the output go; false when there is no such connection, n is below "
                + "0, or there are not so many";
        Scene scene = says(sentence);
        scene.client.send(1, "PING\n");
        int[][] refused = {{-1, 0}, {4, 0}, {-1, 1}, {Integer.MAX_VALUE, 0}, {1, -1}, {1, Integer.MIN_VALUE}, {1, 8},
                {1, Integer.MAX_VALUE}, {0, 1}};
        for (int[] call : refused) {
            scene.due("take " + call[0] + ", " + call[1], scene.steward.take(call[0], call[1]), false).outputs(1, PONG);
        }
        scene.due("none", scene.steward.take(1, 0), true).outputs(1, PONG).due("some", scene.steward.take(1, 3), true)
                .outputs(1, "NG|").due("too many now", scene.steward.take(1, 5), false).outputs(1, "NG|");
        scene.client.send(1, "QUIT\n");
        scene.due("of a closed one", scene.steward.take(1, 4), true).outputs(1, "+OK|").due("all", scene.steward.take(1,
                5), true).outputs(1, "").due("no more", scene.steward.take(1, 1), false)
                .due("nothing", scene.steward.take(1, 0), true).due("of an empty one", scene.steward.take(0, 0), true);
        scene.steward.crash();
        scene.due("down", scene.steward.take(0, 0), true).due("down", scene.steward.take(0, 1), false);
    }

    private static void pass() {
        String sentence = "10: Time goes on by so much (0 or more): how many keys went by it";
        says(sentence, "SET a v PX 1", "SET b v PX 2", "SET c v PX 2", "SET d v").passes(0, 0).passes(1, 1).passes(0, 0)
                .passes(1, 2).passes(5000, 0).answers("KEYS *", "*1|$1|d|");
        says(sentence, "SET a v PX 10", "SET b v PX 20").passes(1000, 2).totals(0, 0, 0);
    }

    private static void passNone() {
        String sentence = "10: NONE when it is below 0, the server is down, or it stopped in it (time has gone on "
                + "then)";
        Scene scene = says(sentence, "SET a v PX 5", "SET b v PX 5");
        String before = scene.state();
        scene.passes(-1, -1).passes(Long.MIN_VALUE, -1).due("behind it", scene.state(), before);
        int log = scene.steward.log();
        scene.steward.fuse(39);
        scene.passes(4, 0).due("up", scene.steward.isUp(), true).passes(1, -1).due("now", scene.steward.now(), 5L)
                .due("up", scene.steward.isUp(), false).due("log", scene.steward.log(), log + 39);
        scene.passes(0, -1).passes(1, -1).due("now", scene.steward.now(), 5L);
        scene.due("restart", scene.steward.restart(), 3).due("now", scene.steward.now(), 5L)
                .logIs("SET a v PXAT 5;SET b v PXAT 5;DEL a;DEL b").passes(0, 0);
        Scene lasts = says(sentence, "SET a v PX 5", "SET b v PX 5");
        lasts.steward.fuse(40);
        lasts.passes(5, 2).due("up", lasts.steward.isUp(), true);
    }

    private static void passMost() {
        String sentence = "10: time beyond 2 to the power 52: NONE, nothing changes";
        long most = 1L << 52;
        Scene scene = says(sentence, "SET a v PX 5", "SET b v PXAT 4503599627370496", "SET c v PXAT 4503599627370497");
        String before = scene.state();
        scene.passes(most + 1, -1).passes(Long.MAX_VALUE, -1).due("behind it", scene.state(), before).passes(1, 0);
        before = scene.state();
        scene.passes(most, -1).passes(Long.MAX_VALUE, -1).due("behind it", scene.state(), before).passes(most - 2, 1)
                .due("now", scene.steward.now(), most - 1);
        before = scene.state();
        scene.passes(2, -1).due("behind it", scene.state(), before).passes(1, 1).due("now", scene.steward.now(), most)
                .passes(1, -1).passes(Long.MAX_VALUE, -1).passes(0, 0)
                .due("now", scene.steward.now(), most).answers("PTTL c", ":1|").answers("EXPIRE c 1", ":1|")
                .answers("PTTL c", ":1000|");
    }

    private static void now() {
        Scene scene = says("11: The time").due("at first", new KeySteward().now(), 0L);
        scene.passes(5, 0).due("now", scene.steward.now(), 5L).passes(0, 0).due("now", scene.steward.now(), 5L);
        scene.steward.crash();
        scene.due("down", scene.steward.now(), 5L);
        scene.steward.restart();
        scene.due("behind a restart", scene.steward.now(), 5L);
    }

    private static void fuse() {
        String sentence = "12: The disk takes so many bytes more (below 0: for ever)";
        Scene scene = says(sentence, "SET k v");
        scene.steward.fuse(41);
        scene.answers("INCR n", ":1|").answers("DEL n", ":1|").due("all burnt", scene.client.send(0, "DEL k\n"), -1);
        Scene less = says(sentence, "SET k v");
        less.steward.fuse(40);
        less.answers("INCR n", ":1|").due("a byte too few", less.client.send(0, "INCRBY n 5\n"), -1).due("log",
                less.steward.log(), 27 + 40);
        for (int forEver : new int[] {-1, -7, Integer.MIN_VALUE}) {
            Scene ever = says(sentence);
            ever.steward.fuse(0);
            ever.steward.fuse(forEver);
            ever.answers("SET k " + "v".repeat(16384), "+OK|").due("up", ever.steward.isUp(), true);
        }
        // The last one told counts, from then on.
        Scene again = says(sentence);
        again.steward.fuse(5);
        again.steward.fuse(27);
        again.answers("SET k v", "+OK|");
        again.steward.fuse(27);
        again.answers("SET k v", "+OK|").due("no more", again.client.send(0, "SET k v\n"), -1);
        Scene large = says(sentence);
        large.steward.fuse(Integer.MAX_VALUE);
        large.answers("SET k v", "+OK|").due("up", large.steward.isUp(), true);
    }

    private static void crash() {
        String sentence = "13: The server stops, as by the fuse; false when it is down";
        Scene scene = says(sentence, "SET k v");
        scene.client.send(1, "PING\nMULTI\n");
        String log = scene.client.log();
        scene.due("crash", scene.steward.crash(), true).due("up", scene.steward.isUp(), false).totals(0, 0, 0)
                .due("log stays", scene.client.log(), log);
        for (int i = 0; i < 4; i++) {
            scene.isOpen(i, false).outputs(i, "");
        }
        String before = scene.state();
        scene.due("again", scene.steward.crash(), false).due("behind it", scene.state(), before).due("restart",
                scene.steward.restart(), 1).due("crash", scene.steward.crash(), true);
    }

    private static void restart() {
        String sentence = "14: It starts again: how many requests of the log were run (a block counts as one); NONE "
                + "when it is up";
        Scene scene = says(sentence, "SET a 1", "GET a", "MULTI", "INCR a", "INCR b", "EXEC", "DEL none",
                "RPUSH l x y");
        String before = scene.state();
        scene.due("up", scene.steward.restart(), -1).due("behind it", scene.state(), before);
        scene.steward.crash();
        scene.due("restart", scene.steward.restart(), 3).due("again", scene.steward.restart(), -1).totals(3,
                3 * 65 + 2 + 34, 0);
        Scene empty = says(sentence);
        empty.steward.crash();
        empty.due("an empty log", empty.steward.restart(), 0).due("up", empty.steward.isUp(), true);
    }

    private static void restartClosed() {
        String sentence = "14: All connections are closed; the fuse never goes now";
        Scene scene = says(sentence, "SET k v PX 5");
        scene.steward.fuse(3);
        scene.steward.crash();
        scene.steward.fuse(0);
        scene.due("restart", scene.steward.restart(), 1);
        for (int i = 0; i < 4; i++) {
            scene.isOpen(i, false).due("send", scene.client.send(i, "PING\n"), -1).due("open", scene.steward.open(i),
                    true).by(i, "PING", PONG);
        }
        scene.answers("SET j " + "v".repeat(16384), "+OK|").passes(5, 1).due("rewrite", scene.steward.rewrite() > 16384,
                true).due("up", scene.steward.isUp(), true);
    }

    private static void rewrite() {
        String sentence = "15: A rewrite: how many bytes the log has then; NONE when the server is down, or it "
                + "stopped in it (the old log stays then)";
        Scene scene = says(sentence, "SET k v", "SET k w", "DEL none");
        scene.due("rewrite", scene.steward.rewrite(), 27).due("log", scene.steward.log(), 27).logIs("SET k w")
                .due("again", scene.steward.rewrite(), 27).answers("DEL k", ":1|").due("nothing is left",
                scene.steward.rewrite(), 0);
        scene.answers("SET k v", "+OK|").answers("SET k w", "+OK|");
        scene.steward.fuse(26);
        scene.due("stopped", scene.steward.rewrite(), -1).due("up", scene.steward.isUp(), false)
                .logIs("SET k v;SET k w").due("down", scene.steward.rewrite(), -1).logIs("SET k v;SET k w");
        scene.due("restart", scene.steward.restart(), 2).due("rewrite", scene.steward.rewrite(), 27);
    }

    private static void log() {
        String sentence = "16: How many bytes the log has";
        Scene scene = says(sentence).due("none", new KeySteward().log(), 0).answers("GET k", "$-1|");
        scene.due("nothing changed", scene.steward.log(), 0).answers("SET k v", "+OK|").due("one", scene.steward.log(),
                27).answers("INCR n", ":1|").due("two", scene.steward.log(), 48);
        scene.steward.crash();
        scene.due("down", scene.steward.log(), 48);
        scene.steward.tear(30);
        scene.due("torn", scene.steward.log(), 30);
        scene.steward.restart();
        scene.due("behind a restart", scene.steward.log(), 27);
    }

    private static void logAt() {
        String sentence = "17: Byte i of the log. NoSuchElementException: there is none";
        Scene scene = says(sentence).due("none", new Client().lacksLog(0), true).answers("SET \u0080 \u00ff", "+OK|");
        String log = scene.client.log();
        scene.due("bytes", log, Client.star("SET", "\u0080", "\u00ff")).due("high", scene.steward.logAt(17), 128)
                .due("highest", scene.steward.logAt(24), 255).due("last", scene.steward.logAt(26), 10);
        for (int i : new int[] {-1, 27, Integer.MIN_VALUE, Integer.MAX_VALUE}) {
            scene.due("none at " + i, scene.client.lacksLog(i), true);
        }
        scene.steward.crash();
        scene.due("down", scene.steward.logAt(0), (int) '*').due("tear", scene.steward.tear(5), true).due("last",
                scene.steward.logAt(4), (int) '$').due("none", scene.client.lacksLog(5), true);
    }

    private static void tear() {
        String sentence = "18: While the server is down: the log has its first n bytes alone; false when it is up, n "
                + "is below 0, or it has not so many";
        Scene scene = says(sentence, "SET k v");
        String log = scene.client.log();
        String before = scene.state();
        scene.due("up", scene.steward.tear(0), false).due("up", scene.steward.tear(27), false).due("behind it",
                scene.state(), before);
        scene.steward.crash();
        for (int n : new int[] {-1, 28, Integer.MIN_VALUE, Integer.MAX_VALUE}) {
            scene.due("tear " + n, scene.steward.tear(n), false).due("log", scene.client.log(), log);
        }
        scene.due("all", scene.steward.tear(27), true).due("log", scene.client.log(), log).due("some",
                scene.steward.tear(26), true).due("log", scene.client.log(), log.substring(0, 26))
                .due("not so many", scene.steward.tear(27), false).due("none", scene.steward.tear(0), true).due("log",
                scene.client.log(), "").due("none", scene.steward.tear(0), true).due("no more", scene.steward.tear(1),
                false);
        scene.due("restart", scene.steward.restart(), 0).totals(0, 0, 0);
    }

    private static void isUp() {
        Scene scene = says("19: Whether the server is up").due("at first", new KeySteward().isUp(), true);
        scene.steward.crash();
        scene.due("crash", scene.steward.isUp(), false);
        scene.steward.restart();
        scene.due("restart", scene.steward.isUp(), true);
        scene.steward.open(0);
        scene.steward.fuse(0);
        scene.due("still", scene.steward.isUp(), true).due("send", scene.client.send(0, "INCR n\n"), -1).due("fuse",
                scene.steward.isUp(), false);
    }

    private static void total() {
        String sentence = "20: What 0 how many keys there are, 1 the memory they take, 2 how many of them have a time "
                + "(all 0 while it is down); NONE for another";
        Scene scene = says(sentence, "SET k v", "RPUSH l a", "SET t v EX 5", "PEXPIRE l 9").totals(3,
                3 * 65 + 1 + 17 + 1, 2);
        for (int what : new int[] {-1, 3, Integer.MIN_VALUE, Integer.MAX_VALUE}) {
            scene.due("another " + what, scene.steward.total(what), -1);
        }
        scene.steward.crash();
        scene.totals(0, 0, 0).due("another", scene.steward.total(3), -1).due("another", scene.steward.total(-1), -1);
        scene.steward.restart();
        scene.totals(3, 3 * 65 + 1 + 17 + 1, 2);
    }

    public static void main(String[] args) throws ReflectiveOperationException {
        face();
        newObject();
        feedBytes();
        feedMost();
        end();
        sendTape();
        sendCounts();
        sendNone();
        longInput();
        open();
        isOpen();
        out();
        outAt();
        take();
        pass();
        passNone();
        passMost();
        now();
        fuse();
        crash();
        restart();
        restartClosed();
        rewrite();
        log();
        logAt();
        tear();
        isUp();
        total();
        CHECK.end();
    }
}
