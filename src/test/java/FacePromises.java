/** Promises 1 to 20 by the calls of the face. */
public final class FacePromises {
    private static final Check CHECK = new Check();

    private static void due(String what, Object got, Object want) {
        CHECK.due(what, got, want);
    }

    private static void newObject() {
        KeySteward s = new KeySteward();
        due("1 NONE", KeySteward.NONE, -1);
        due("1 keys", s.total(0), 0);
        due("1 memory", s.total(1), 0);
        due("1 timed", s.total(2), 0);
        due("1 log", s.log(), 0);
        due("1 now", s.now(), 0L);
        due("1 up", s.isUp(), true);
        for (int i = 0; i < 4; i++) {
            due("1 open " + i, s.isOpen(i), true);
            due("1 out " + i, s.out(i), 0);
        }
        due("1 tape", s.end(1), false);
        due("1 empty tape", s.send(0), 0);
        Client client = new Client();
        client.ask(0, "SET k " + Check.times("v", 1000));
        due("1 fuse", client.steward.isUp(), true);
    }

    private static void tape() {
        KeySteward s = new KeySteward();
        due("2 feed", s.feed(0x50494E47, 0x0D0A5049, 0x4E470A80, 0xFFFFFFFF, 0), true);
        due("3 too many", s.end(21), false);
        due("3 below 0", s.end(-1), false);
        due("3 least", s.end(Integer.MIN_VALUE), false);
        due("3 most", s.end(Integer.MAX_VALUE), false);
        due("3 all", s.end(20), true);
        due("3 end", s.end(11), true);
        due("3 not so many any more", s.end(12), false);
        due("4 send", s.send(1), 2);
        due("7 out", s.out(1), 14);
        due("3 empty behind send", s.end(1), false);
        due("3 none", s.end(0), true);
        KeySteward full = new KeySteward();
        for (int i = 0; i < 3277; i++) {
            if (!full.feed(0x2A300D0A, 0x2A300D0A, 0x2A300D0A, 0x2A300D0A, 0x2A300D0A)) {
                due("2 feed " + i, false, true);
            }
        }
        due("2 full", full.feed(0, 0, 0, 0, 0), false);
        due("2 nothing changed", full.end(65541), false);
        due("2 all there", full.end(65540), true);
        due("2 still full", full.feed(0, 0, 0, 0, 0), false);
        due("3 one less", full.end(65520), true);
        due("2 room again", full.feed(1, 2, 3, 4, 5), true);
        due("3 less", full.end(65521), true);
        due("2 no room for all", full.feed(1, 2, 3, 4, 5), false);
        due("3 all there", full.end(65522), false);
        due("3 words", full.end(65520), true);
        due("4 requests without words", full.send(0), 0);
        due("4 open", full.isOpen(0), true);
    }

    private static void send() {
        Client c = new Client();
        due("4 none below", c.send(-1, "PING\n"), -1);
        due("4 tape empty then", c.steward.end(1), false);
        due("4 none above", c.send(4, "PING\n"), -1);
        due("4 tape empty then", c.steward.end(1), false);
        due("4 count", c.send(0, "PING\n\nNOSUCH\nGET\n*0\r\n*-3\r\nMULTI\nPING\nEXEC\n   \n"), 6);
        due("4 answers", Client.shown(c.taken(0)),
                "+PONG|-ERR unknown|-ERR arity|+OK|+QUEUED|*1|+PONG|");
        due("4 part", c.send(0, "PI"), 0);
        due("4 rest", c.send(0, "NG\r\n*1\r\n$4\r\nPI"), 1);
        due("4 other", c.send(1, "PING\n"), 1);
        due("4 rest of rest", c.send(0, "NG\r"), 0);
        due("4 last", c.send(0, "\n"), 1);
        due("4 answered", c.taken(0), "+PONG\r\n+PONG\r\n");
        due("4 a fault isn't counted", c.send(0, "PING\n*x\r\nPING\n"), 1);
        due("4 it closed", c.steward.isOpen(0), false);
        due("4 not open", c.send(0, "PING\n"), -1);
        due("4 tape empty then", c.steward.end(1), false);
        due("4 quit", c.send(1, "PING\nQUIT\nPING\n"), 2);
        due("4 quit closed", c.steward.isOpen(1), false);
        due("4 quit answered", c.output(1), "+PONG\r\n+PONG\r\n+OK\r\n");
        c.steward.crash();
        due("4 down", c.send(2, "PING\n"), -1);
        due("4 tape empty then", c.steward.end(1), false);
        Client stops = new Client();
        stops.steward.fuse(30);
        due("4 stopped in them", stops.send(0, "PING\nSET k v\nSET k w\nPING\n"), -1);
        due("4 output is empty", stops.steward.out(0), 0);
        due("4 down then", stops.steward.isUp(), false);
    }

    private static void longInput() {
        String word = Check.times("a", 16384);
        String head = "*6\r\n";
        String part = "$16384\r\n" + word + "\r\n";
        String four = head + part + part + part;
        Client c = new Client();
        due("4 long", c.send(0, four), 0);
        String most = part.substring(0, 65536 - four.length());
        due("4 65536 bytes", c.send(0, most), 0);
        due("4 still open", c.steward.isOpen(0), true);
        due("4 one more", c.send(0, part.substring(most.length(), most.length() + 1)), 0);
        due("4 closes", c.steward.isOpen(0), false);
        due("4 nothing said", c.steward.out(0), 0);
        Client d = new Client();
        d.load(four + most);
        due("4 in one", d.steward.send(0), 0);
        due("4 open in one", d.steward.isOpen(0), true);
        Client e = new Client();
        e.load("PING\n" + "*9\r\n" + part + part + part + part.substring(0, 16350));
        due("4 behind them", e.steward.send(0), 1);
        due("4 it has less", e.steward.isOpen(0), true);
    }

    private static void connections() {
        Client c = new Client();
        due("5 none", c.steward.open(-1), false);
        due("5 none", c.steward.open(4), false);
        due("6 none", c.steward.isOpen(-1), false);
        due("6 none", c.steward.isOpen(4), false);
        c.send(0, "MULTI\nPING\nGET");
        due("5 anew", c.steward.open(0), true);
        due("5 output is empty", c.steward.out(0), 0);
        due("5 block and input are gone", c.ask(0, "EXEC"), "-ERR none\r\n");
        c.ask(0, "WATCH k");
        c.ask(0, "SUBSCRIBE c");
        c.steward.open(0);
        due("5 channels are gone", c.ask(1, "PUBLISH c v"), ":0\r\n");
        c.ask(1, "SET k v");
        c.ask(0, "MULTI");
        due("5 watches are gone", c.ask(0, "EXEC"), "*0\r\n");
        c.send(0, "QUIT\n");
        due("6 closed", c.steward.isOpen(0), false);
        due("7 output stays", c.output(0), "+OK\r\n");
        due("9 of a closed one", c.steward.take(0, 2), true);
        due("7 rest", c.output(0), "K\r\n");
        due("5 opened", c.steward.open(0), true);
        due("7 empty", c.steward.out(0), 0);
        due("6 open", c.steward.isOpen(0), true);
        c.steward.crash();
        due("5 down", c.steward.open(0), false);
        due("6 down", c.steward.isOpen(0), false);
    }

    private static void outputs() {
        Client c = new Client();
        due("7 none", c.steward.out(-1), -1);
        due("7 none", c.steward.out(4), -1);
        due("8 none", c.lacksOut(-1, 0), true);
        due("8 none", c.lacksOut(4, 0), true);
        due("8 empty", c.lacksOut(0, 0), true);
        c.send(0, Client.star("ECHO", "\u00ff\u0080"));
        due("7 out", c.steward.out(0), 8);
        due("8 first", c.steward.outAt(0, 0), (int) '$');
        due("8 high", c.steward.outAt(0, 4), 255);
        due("8 high", c.steward.outAt(0, 5), 128);
        due("8 last", c.steward.outAt(0, 7), 10);
        due("8 behind", c.lacksOut(0, 8), true);
        due("8 below", c.lacksOut(0, -1), true);
        due("8 far", c.lacksOut(0, Integer.MAX_VALUE), true);
        due("9 none", c.steward.take(-1, 0), false);
        due("9 none", c.steward.take(4, 0), false);
        due("9 below", c.steward.take(0, -1), false);
        due("9 too many", c.steward.take(0, 9), false);
        due("9 nothing", c.steward.take(0, 0), true);
        due("9 some", c.steward.take(0, 4), true);
        due("9 rest", c.output(0), "\u00ff\u0080\r\n");
        due("9 too many now", c.steward.take(0, 5), false);
        due("9 all", c.steward.take(0, 4), true);
        due("9 empty", c.steward.out(0), 0);
    }

    private static void fullOutput() {
        Client c = new Client();
        c.ask(0, "SETRANGE k 16364 x");
        for (int i = 0; i < 4; i++) {
            c.send(0, "GET k\n");
        }
        // Each answer is 16375 bytes: 65500 of 65536.
        due("7 four words", c.steward.out(0), 4 * (8 + 16365 + 2));
        c.send(0, "ECHO " + Check.times("x", 36 - 7) + "\n");
        due("7 just full", c.steward.out(0), 65536);
        due("6 still open", c.steward.isOpen(0), true);
        due("4 does not fit", c.send(0, "INCR n\nINCR n\n"), 1);
        due("7 emptied", c.steward.out(0), 0);
        due("6 closed", c.steward.isOpen(0), false);
        due("done all the same", c.ask(1, "GET n"), "$1\r\n1\r\n");
        Client block = new Client();
        block.ask(0, "SETRANGE k 16383 x");
        block.send(0, "MULTI\nGET k\nGET k\nGET k\nGET k\nINCR n\nPUBLISH c v\n");
        block.ask(1, "SUBSCRIBE c");
        due("a block that does not fit", block.send(0, "EXEC\nINCR n\n"), 1);
        due("its output", block.steward.out(0), 0);
        due("it closed", block.steward.isOpen(0), false);
        due("all of it was done", block.ask(2, "GET n"), "$1\r\n1\r\n");
        due("messages too", Client.shown(block.taken(1)), "*3|$7|message|$1|c|$1|v|");
    }

    private static void time() {
        Client c = new Client();
        due("10 below", c.steward.pass(-1), -1);
        due("11 now", c.steward.now(), 0L);
        due("10 nothing", c.steward.pass(0), 0);
        c.ask(0, "MSET a 1 b 2 c 3 d 4");
        c.ask(0, "PEXPIRE c 10");
        c.ask(0, "PEXPIRE a 10");
        c.ask(0, "PEXPIRE b 11");
        int before = c.steward.log();
        due("10 none yet", c.steward.pass(9), 0);
        due("10 nothing logged", c.steward.log(), before);
        due("10 two", c.steward.pass(1), 2);
        due("11 now", c.steward.now(), 10L);
        due("10 logged rising", Client.shown(c.log().substring(before)), Check.starred("DEL a; DEL c"));
        due("10 gone", c.ask(0, "EXISTS a b c d"), ":2\r\n");
        due("10 beyond", c.steward.pass((1L << 52) - 9), -1);
        due("10 far beyond", c.steward.pass(Long.MAX_VALUE), -1);
        due("11 nothing changed", c.steward.now(), 10L);
        due("10 nothing changed", c.steward.total(0), 2);
        due("10 just there", c.steward.pass((1L << 52) - 10), 1);
        due("11 the last", c.steward.now(), 1L << 52);
        due("10 no more", c.steward.pass(1), -1);
        due("10 nothing", c.steward.pass(0), 0);
        c.steward.crash();
        due("10 down", c.steward.pass(0), -1);
        due("11 down", c.steward.now(), 1L << 52);
        Client f = new Client();
        f.ask(0, "MSET a 1 b 2");
        f.ask(0, "PEXPIRE a 5");
        f.ask(0, "PEXPIRE b 5");
        int size = f.steward.log();
        f.steward.fuse(25);
        due("10 stopped in it", f.steward.pass(5), -1);
        due("11 time has gone on", f.steward.now(), 5L);
        due("12 so many bytes", f.steward.log(), size + 25);
        due("14 restart", f.steward.restart(), 4);
        due("14 logged then", Client.shown(f.log().substring(size)), Check.starred("DEL a; DEL b"));
        due("20 keys", f.steward.total(0), 0);
    }

    private static void fuseAndCrash() {
        Client c = new Client();
        c.steward.fuse(27);
        due("12 just enough", c.ask(0, "SET k v"), "+OK\r\n");
        due("12 nothing is written", c.ask(0, "GET k"), "$1\r\nv\r\n");
        due("12 none left", c.send(0, "DEL k\n"), -1);
        due("19 down", c.steward.isUp(), false);
        due("16 log", c.steward.log(), 27);
        due("13 down", c.steward.crash(), false);
        due("20 down", c.steward.total(0), 0);
        due("20 down", c.steward.total(1), 0);
        due("20 down", c.steward.total(2), 0);
        due("20 another", c.steward.total(3), -1);
        due("14 restart", c.steward.restart(), 1);
        due("14 closed", c.steward.isOpen(0), false);
        due("14 up", c.steward.restart(), -1);
        c.steward.open(0);
        due("14 the fuse never goes", c.ask(0, "DEL k"), ":1\r\n");
        c.steward.fuse(0);
        c.steward.fuse(-5);
        due("12 for ever", c.ask(0, "SET k v"), "+OK\r\n");
        c.steward.fuse(3);
        c.ask(1, "WATCH k");
        due("13 crash", c.steward.crash(), true);
        due("13 again", c.steward.crash(), false);
        due("19 down", c.steward.isUp(), false);
        due("14 restart", c.steward.restart(), 3);
        due("19 up", c.steward.isUp(), true);
        due("20 keys", c.steward.total(0), 1);
        c.steward.fuse(0);
        due("15 no room", c.steward.rewrite(), -1);
        due("19 stopped", c.steward.isUp(), false);
        due("16 old log stays", c.steward.log(), 27 + 20 + 27);
        due("15 down", c.steward.rewrite(), -1);
        c.steward.fuse(2);
        due("14 restart", c.steward.restart(), 3);
        due("15 rewrite", c.steward.rewrite(), 27);
        c.steward.fuse(50);
        due("15 its bytes count", c.steward.rewrite(), 27);
        due("15 not enough", c.steward.rewrite(), -1);
        due("16 log", c.steward.log(), 27);
        Client outputs = new Client();
        outputs.send(0, "PING\n");
        outputs.send(1, "MULTI\n");
        outputs.steward.crash();
        for (int i = 0; i < 4; i++) {
            due("13 output " + i, outputs.steward.out(i), 0);
            due("13 open " + i, outputs.steward.isOpen(i), false);
        }
        due("9 while down", outputs.steward.take(0, 0), true);
    }

    private static void logAndTear() {
        Client c = new Client();
        due("17 empty", c.lacksLog(0), true);
        c.ask(0, "SET k \u00fe");
        due("16 log", c.steward.log(), 27);
        due("17 first", c.steward.logAt(0), (int) '*');
        due("17 high", c.steward.logAt(24), 254);
        due("17 last", c.steward.logAt(26), 10);
        due("17 behind", c.lacksLog(27), true);
        due("17 below", c.lacksLog(-1), true);
        due("17 least", c.lacksLog(Integer.MIN_VALUE), true);
        due("18 up", c.steward.tear(0), false);
        c.steward.crash();
        due("18 below", c.steward.tear(-1), false);
        due("18 too many", c.steward.tear(28), false);
        due("18 all", c.steward.tear(27), true);
        due("18 some", c.steward.tear(26), true);
        due("18 not so many", c.steward.tear(27), false);
        due("16 log", c.steward.log(), 26);
        due("17 behind", c.lacksLog(26), true);
        due("14 restart", c.steward.restart(), 0);
        due("14 what is no request goes", c.steward.log(), 0);
        due("20 nothing", c.steward.total(0), 0);
    }

    private static void totals() {
        Client c = new Client();
        due("20 another", c.steward.total(-1), -1);
        due("20 another", c.steward.total(3), -1);
        c.ask(0, "SET text hello");
        due("20 text", c.steward.total(1), 64 + 4 + 5);
        c.ask(0, "DEL text");
        c.ask(0, "RPUSH list a bcd");
        due("20 list", c.steward.total(1), 64 + 4 + 16 + 1 + 16 + 3);
        c.ask(0, "DEL list");
        c.ask(0, "HSET hash f value g w");
        due("20 hash", c.steward.total(1), 64 + 4 + 32 + 6 + 32 + 2);
        c.ask(0, "DEL hash");
        c.ask(0, "SADD set a bcd");
        due("20 set", c.steward.total(1), 64 + 3 + 24 + 1 + 24 + 3);
        c.ask(0, "DEL set");
        c.ask(0, "ZADD order 1 a 200 bcd");
        due("20 order", c.steward.total(1), 64 + 5 + 48 + 1 + 48 + 3);
        due("20 keys", c.steward.total(0), 1);
        c.ask(0, "EXPIRE order 5");
        c.ask(0, "SET k v EX 7");
        c.ask(0, "SET l v");
        due("20 timed", c.steward.total(2), 2);
        c.ask(0, "PERSIST order");
        due("20 timed", c.steward.total(2), 1);
        c.ask(0, "SET k v");
        due("20 timed", c.steward.total(2), 0);
        c.ask(0, "FLUSHALL");
        due("20 nothing", c.steward.total(1), 0);
    }

    public static void main(String[] args) {
        newObject();
        tape();
        send();
        longInput();
        connections();
        outputs();
        fullOutput();
        time();
        fuseAndCrash();
        logAndTear();
        totals();
        CHECK.end();
    }
}
