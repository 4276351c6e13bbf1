/** Blocks, watches, channels and the other commands. */
public final class BlocksAndChannels {
    private static final Check CHECK = new Check();

    private static void blocks() {
        CHECK.script("EXEC", "-ERR none|", "DISCARD", "-ERR none|", "MULTI", "+OK|", "MULTI", "-ERR nested|", "SET k v", "+QUEUED|",
                "LPUSH k a", "+QUEUED|", "GET k", "+QUEUED|", "WATCH k", "-ERR watch|", "UNWATCH", "+QUEUED|", "1:GET k", "$-1|",
                "INCRBY k x", "+QUEUED|", "EXEC", "*5|+OK|-WRONGTYPE|$1|v|+OK|-ERR integer|", "EXEC", "-ERR none|", "GET k", "$1|v|",
                "MULTI", "+OK|", "EXEC", "*0|", "MULTI", "+OK|", "SET k w", "+QUEUED|", "DISCARD", "+OK|", "GET k", "$1|v|",
                "EXEC x", "-ERR arity|", "MULTI x", "-ERR arity|", "DISCARD x", "-ERR arity|");
        CHECK.script("MULTI", "+OK|", "SET k", "-ERR arity|", "SET k v", "+QUEUED|", "EXEC", "-EXECABORT|", "EXISTS k", ":0|",
                "EXEC", "-ERR none|", "MULTI", "+OK|", "NOSUCH", "-ERR unknown|", "EXEC", "-EXECABORT|",
                "MULTI", "+OK|", "SET k v", "+QUEUED|", "EXEC x", "-ERR arity|", "EXEC", "-EXECABORT|",
                "MULTI", "+OK|", "SUBSCRIBE c", "-ERR mode|", "EXEC", "-EXECABORT|", "MULTI", "+OK|", "UNSUBSCRIBE", "-ERR mode|",
                "EXEC", "-EXECABORT|", "PUBLISH c v", ":0|", "MULTI", "+OK|", "NOSUCH", "-ERR unknown|", "DISCARD", "+OK|",
                "MULTI", "+OK|", "PING", "+QUEUED|", "EXEC", "*1|+PONG|", "MULTI", "+OK|", "MULTI", "-ERR nested|", "WATCH a", "-ERR watch|",
                "EXEC", "*0|", "MULTI", "+OK|", "MULTI x", "-ERR arity|", "EXEC", "-EXECABORT|");
        Client c = CHECK.script("MULTI", "+OK|", "QUIT", "+OK|");
        CHECK.due("QUIT in a block", c.steward.isOpen(0), false);
        c.steward.open(0);
        CHECK.script(c, "EXEC", "-ERR none|");
    }

    private static void fullBlock() {
        Client c = new Client();
        c.send(0, "MULTI\n" + Check.times("INCR n\n", 200));
        CHECK.due("200 queued", Client.shown(c.taken(0)), "+OK|" + Check.times("+QUEUED|", 200));
        c.send(0, "EXEC\n");
        CHECK.due("200 run", Client.shown(c.taken(0)).endsWith(":199|:200|"), true);
        c.send(0, "MULTI\n" + Check.times("INCR n\n", 201));
        CHECK.due("201", Client.shown(c.taken(0)), "+OK|" + Check.times("+QUEUED|", 200) + "-ERR full|");
        CHECK.script(c, "EXEC", "-EXECABORT|", "GET n", "$3|200|");
        c.send(0, "MULTI\n" + Check.times("INCR n\n", 200));
        c.taken(0);
        CHECK.script(c, "NOSUCH", "-ERR unknown|", "GET", "-ERR arity|", "DISCARD", "+OK|");
    }

    /** Whether a change by another connection lets a block fail. */
    private static void watched(boolean changes, String setup, String key, String change) {
        Client c = new Client();
        for (String line : setup.split(";")) {
            c.ask(1, line.trim());
        }
        c.ask(0, "WATCH " + key);
        c.ask(1, change);
        c.ask(0, "MULTI");
        c.ask(0, "PING");
        CHECK.due("watched " + key + ", " + change, Client.shown(c.ask(0, "EXEC")), changes ? "*-1|" : "*1|+PONG|");
    }

    private static void watches() {
        String all = "SET t 5; RPUSH l a b; HSET h f v; SADD s a b; SADD s2 a; ZADD z 1 a 2 b; SET e v EX 9";
        watched(true, all, "t", "SET t 5");
        watched(true, all, "none", "SET none v");
        watched(false, all, "t", "SET other v");
        watched(false, all, "t", "SET t v NX");
        watched(false, all, "t", "GET t");
        watched(true, all, "t", "GETSET t 5");
        watched(true, all, "t", "INCRBY t 0");
        watched(true, all, "t", "DEL t");
        watched(false, all, "none", "DEL none");
        watched(true, all, "t", "MSET a b t 5");
        watched(false, all, "t", "MSETNX a b t 5");
        watched(true, all, "t", "SETBIT t 0 0");
        watched(true, all, "t", "EXPIRE t 100");
        watched(true, all, "t", "EXPIRE t -100");
        watched(true, all, "e", "PERSIST e");
        watched(false, all, "t", "PERSIST t");
        watched(true, all, "t", "RENAME t u");
        watched(true, all, "u", "RENAME t u");
        watched(false, all, "t", "RENAME t t");
        for (String key : new String[] {"t", "l", "h", "s", "s2", "z", "e"}) {
            watched(true, all, key, "FLUSHALL");
            watched(false, all, key, "FLUSHALL x");
        }
        watched(false, all, "none", "FLUSHALL");
        watched(true, all, "l", "LPUSH l a");
        watched(true, all, "l", "LSET l 0 a");
        watched(true, all, "l", "LMOVE l l LEFT LEFT");
        watched(true, all, "m", "LMOVE l m LEFT LEFT");
        watched(true, all, "l", "LMOVE l m LEFT LEFT");
        watched(false, all, "l", "LTRIM l 0 -1");
        watched(false, all, "l", "LPOP l 0");
        watched(false, all, "l", "LREM l 0 x");
        watched(false, all, "l", "LINSERT l BEFORE x y");
        watched(true, all, "h", "HSET h f v");
        watched(false, all, "h", "HSETNX h f w");
        watched(false, all, "h", "HDEL h x");
        watched(true, all, "h", "HDEL h f");
        watched(false, all, "s", "SADD s a");
        watched(true, all, "s", "SADD s c");
        watched(true, all, "s2", "SMOVE s s2 a");
        watched(true, all, "s", "SMOVE s s2 a");
        watched(false, all, "s", "SMOVE s s a");
        watched(false, all, "s", "SMOVE s s2 x");
        watched(true, all, "s", "SUNIONSTORE s s");
        watched(false, all, "s", "SUNIONSTORE s2 s");
        watched(true, all, "s", "SINTERSTORE s none");
        watched(false, all, "none", "SINTERSTORE none none2");
        watched(true, all, "s", "SPOP s");
        watched(false, all, "z", "ZADD z 1 a");
        watched(true, all, "z", "ZADD z 2 a");
        watched(false, all, "z", "ZADD z XX 1 c");
        watched(false, all, "z", "ZINCRBY z 0 a");
        watched(true, all, "z", "ZREMRANGEBYSCORE z 1 1");
        watched(false, all, "z", "ZREMRANGEBYSCORE z 8 9");
        watched(true, all, "z", "ZPOPMIN z");
        Client c = CHECK.script("SET k v", "+OK|", "WATCH k", "+OK|", "SET k w", "+OK|", "MULTI", "+OK|", "EXEC", "*-1|", "MULTI", "+OK|",
                "EXEC", "*0|", "WATCH k", "+OK|", "1:DEL k", ":1|", "UNWATCH", "+OK|", "MULTI", "+OK|", "EXEC", "*0|",
                "WATCH k", "+OK|", "1:SET k v", "+OK|", "WATCH k", "+OK|", "MULTI", "+OK|", "EXEC", "*-1|",
                "WATCH k", "+OK|", "MULTI", "+OK|", "1:SET k v", "+OK|", "DISCARD", "+OK|", "MULTI", "+OK|", "EXEC", "*0|",
                "WATCH k", "+OK|", "MULTI", "+OK|", "NOSUCH", "-ERR unknown|", "1:SET k v", "+OK|", "EXEC", "-EXECABORT|",
                "WATCH", "-ERR arity|", "UNWATCH x", "-ERR arity|", "PEXPIRE k 5", ":1|", "WATCH k", "+OK|", "MULTI", "+OK|");
        c.steward.pass(5);
        CHECK.script(c, "EXEC", "*-1|");
        StringBuilder many = new StringBuilder("WATCH");
        for (int i = 0; i < 63; i++) {
            many.append(" k" + i);
        }
        CHECK.script(many.toString(), "+OK|", "WATCH k0 k1", "+OK|", "WATCH a b", "-ERR full|", "1:SET a v", "+OK|", "MULTI", "+OK|", "EXEC", "*0|",
                many.toString(), "+OK|", "WATCH a a k5", "+OK|", "WATCH b", "-ERR full|", "WATCH a", "+OK|", "1:SET a v", "+OK|", "MULTI", "+OK|",
                "EXEC", "*-1|", many + " a b", "-ERR full|", "1:SET k0 v", "+OK|", "MULTI", "+OK|", "EXEC", "*0|");
    }

    private static void channels() {
        Client c = CHECK.script("SUBSCRIBE b a b", "*3|$9|subscribe|$1|b|:1|*3|$9|subscribe|$1|a|:2|*3|$9|subscribe|$1|b|:2|",
                "GET k", "-ERR mode|", "MULTI", "-ERR mode|", "PUBLISH a v", "-ERR mode|", "GET", "-ERR arity|", "NOSUCH", "-ERR unknown|",
                "PING", "+PONG|", "PING x", "$1|x|", "1:PUBLISH a hi", ":1|", "1:PUBLISH c hi", ":0|", "1:PUBLISH a", "-ERR arity|");
        c.ask(2, "SUBSCRIBE a");
        CHECK.due("two", Client.shown(c.ask(1, "PUBLISH a hi")), ":2|");
        CHECK.due("message", Client.shown(c.taken(2)), "*3|$7|message|$1|a|$2|hi|");
        // The first one's came ahead of what is asked next, so it is still there.
        CHECK.script(c, "UNSUBSCRIBE x", "*3|$7|message|$1|a|$2|hi|*3|$7|message|$1|a|$2|hi|*3|$11|unsubscribe|$1|x|:2|",
                "UNSUBSCRIBE", "*3|$11|unsubscribe|$1|a|:1|*3|$11|unsubscribe|$1|b|:0|", "UNSUBSCRIBE", "*3|$11|unsubscribe|$-1|:0|",
                "UNSUBSCRIBE a", "*3|$11|unsubscribe|$1|a|:0|", "GET k", "$-1|", "SUBSCRIBE", "-ERR arity|",
                "1:PUBLISH b v", ":0|", "1:PUBLISH a v", ":1|", "2:QUIT", "*3|$7|message|$1|a|$1|v|+OK|", "1:PUBLISH a v", ":0|");
        StringBuilder many = new StringBuilder("SUBSCRIBE");
        for (int i = 0; i < 32; i++) {
            many.append(" c" + i);
        }
        Client full = new Client();
        full.ask(0, many.toString());
        CHECK.script(full, "SUBSCRIBE c5 x c6", "*3|$9|subscribe|$2|c5|:32|-ERR full|*3|$9|subscribe|$2|c6|:32|",
                "1:PUBLISH x v", ":0|", "UNSUBSCRIBE c31 c31", "*3|$11|unsubscribe|$3|c31|:31|*3|$11|unsubscribe|$3|c31|:31|",
                "SUBSCRIBE x", "*3|$9|subscribe|$1|x|:32|");
        Client block = CHECK.script("1:SUBSCRIBE c", "*3|$9|subscribe|$1|c|:1|", "MULTI", "+OK|", "PUBLISH c v", "+QUEUED|", "1:PING", "+PONG|",
                "EXEC", "*1|:1|");
        CHECK.due("message of a block", Client.shown(block.taken(1)), "*3|$7|message|$1|c|$1|v|");
        Client watching = CHECK.script("WATCH k", "+OK|", "SUBSCRIBE c", "*3|$9|subscribe|$1|c|:1|", "1:SET k v", "+OK|",
                "UNSUBSCRIBE", "*3|$11|unsubscribe|$1|c|:0|", "MULTI", "+OK|", "EXEC", "*-1|");
        CHECK.due("open", watching.steward.isOpen(0), true);
    }

    private static void fullChannel() {
        Client c = new Client();
        c.ask(1, "SUBSCRIBE c");
        c.ask(2, "SUBSCRIBE c");
        String word = Check.times("x", 16384);
        for (int i = 0; i < 3; i++) {
            c.send(0, Client.star("PUBLISH", "c", word));
            CHECK.due("published " + i, Client.shown(c.taken(0)), ":2|");
            c.steward.take(2, c.steward.out(2));
        }
        CHECK.due("three messages", c.steward.out(1), 3 * (4 + 13 + 7 + 8 + 16384 + 2));
        c.send(0, "MULTI\n" + Client.star("PUBLISH", "c", word) + "PUBLISH c v\nEXEC\n");
        CHECK.due("it had it, and closed at once", Client.shown(c.taken(0)), "+OK|+QUEUED|+QUEUED|*2|:2|:1|");
        CHECK.due("its output", c.steward.out(1), 0);
        CHECK.due("it is closed", c.steward.isOpen(1), false);
        CHECK.due("the other isn't", c.steward.isOpen(2), true);
    }

    private static void others() {
        CHECK.script("PING", "+PONG|", "PING a", "$1|a|", "PING a b", "-ERR arity|", "ECHO a", "$1|a|", "ECHO", "-ERR arity|", "ECHO a b", "-ERR arity|",
                "QUIT x", "-ERR arity|", "NOSUCH", "-ERR unknown|", "GETX k", "-ERR unknown|", "GE k", "-ERR unknown|", "TIME", "*2|$1|0|$1|0|",
                "ZZZ", "-ERR unknown|", "A", "-ERR unknown|", "@", "-ERR unknown|", "quit", "+OK|");
        for (String name : Model.COMMANDS) {
            Client c = new Client();
            String answer = c.ask(0, name.toLowerCase() + Check.times(" x", 1000));
            CHECK.due(name + " is there", answer.equals("-ERR unknown\r\n"), false);
        }
        Client empty = new Client();
        empty.send(0, "*1\r\n$0\r\n\r\n");
        CHECK.due("an empty name", empty.taken(0), "-ERR unknown\r\n");
    }

    public static void main(String[] args) {
        blocks();
        fullBlock();
        watches();
        channels();
        fullChannel();
        others();
        CHECK.end();
    }
}
