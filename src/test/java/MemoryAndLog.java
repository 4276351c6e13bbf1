/** -OOM, what is logged and what is not, restarts and rewrites. */
public final class MemoryAndLog {
    private static final Check CHECK = new Check();

    /** A server whose keys take just so much, with a text, a list, a hash, a set and an order. */
    private static Client filled(int memory) {
        Client c = new Client();
        for (String line : new String[] {"SET t 5", "RPUSH l a b", "HSET h f 1", "SADD s a b", "ZADD z 1 a", "SADD s2 c"}) {
            c.ask(0, line);
        }
        for (int i = 0; i < 3; i++) {
            c.ask(0, "SETRANGE big" + i + " 16383 x");
        }
        int rest = memory - c.steward.total(1) - 64 - 4;
        c.ask(0, "SETRANGE rest " + (rest - 1) + " x");
        return c;
    }

    private static void memory() {
        String[] filling = {"SET t v", "GETSET t v", "SETNX n v", "SETEX t 1 v", "PSETEX t 1 v", "MSET n v", "MSETNX n v", "APPEND t v",
            "SETRANGE t 0 v", "INCR t", "DECR t", "INCRBY t 1", "DECRBY t 1", "SETBIT t 0 1", "LPUSH l v", "RPUSH l v", "LPUSHX l v",
            "RPUSHX l v", "LSET l 0 v", "LINSERT l BEFORE a v", "LMOVE l l LEFT LEFT", "RPOPLPUSH l l", "HSET h f v", "HSETNX h g v",
            "HINCRBY h f 1", "SADD s v", "SINTERSTORE n s", "SUNIONSTORE n s", "SDIFFSTORE n s", "ZADD z 1 v", "ZINCRBY z 1 a",
            "SET t v XX", "SET t v GET", "SET none v XX", "LPUSHX none v", "SET l v GET", "APPEND l v", "INCR s", "ZADD t 1 a", "LMOVE none t LEFT LEFT"};
        for (String line : filling) {
            Client full = filled(60000);
            CHECK.due("memory", full.steward.total(1), 60000);
            int log = full.steward.log();
            CHECK.due("full: " + line, Client.shown(full.ask(0, line)), "-OOM|");
            CHECK.due("nothing logged: " + line, full.steward.log(), log);
            Client almost = filled(59999);
            CHECK.due("memory", almost.steward.total(1), 59999);
            CHECK.due("almost full: " + line, Client.shown(almost.ask(0, line)).equals("-OOM|"), false);
        }
        String[] others = {"GET t", "DEL t", "GETDEL t", "RENAME t n", "EXPIRE t 5", "PEXPIREAT t 5", "LPOP l", "LREM l 0 a", "LTRIM l 0 0",
            "HDEL h f", "SREM s a", "SMOVE s s2 a", "SPOP s", "ZREM z a", "ZPOPMIN z", "PERSIST t", "FLUSHALL", "PING", "PUBLISH a b"};
        for (String line : others) {
            CHECK.due("full: " + line, filled(60000).ask(0, line).startsWith("-"), false);
        }
        CHECK.script(filled(60000), "SET t v NX XX", "-ERR syntax|", "INCRBY t x", "-ERR integer|", "SETRANGE t -1 x", "-ERR range|",
                "SETEX t 0 v", "-ERR time|", "LPUSH t v", "-OOM|", "SET t", "-ERR arity|", "MULTI", "+OK|", "SET t v", "+QUEUED|", "DEL t", "+QUEUED|",
                "SET t v", "+QUEUED|", "EXEC", "*3|-OOM|:1|+OK|");
    }

    private static void replayedWithoutRefusal() {
        Client c = filled(59999);
        c.ask(0, "MSET a " + Check.times("x", 500) + " b " + Check.times("y", 500));
        int memory = c.steward.total(1);
        int keys = c.steward.total(0);
        c.ask(0, "DEL t");
        c.steward.crash();
        CHECK.due("restart", c.steward.restart(), 12);
        CHECK.due("memory behind it", c.steward.total(1), memory - 64 - 1 - 1);
        CHECK.due("keys behind it", c.steward.total(0), keys - 1);
        c.steward.open(0);
        c.steward.rewrite();
        c.steward.crash();
        c.steward.restart();
        CHECK.due("memory behind a rewrite", c.steward.total(1), memory - 64 - 1 - 1);
    }

    private static void logged() {
        CHECK.logs("SET k v", "set k v");
        CHECK.logs("SET k v", "SET k v", "SET k v XX GET");
        CHECK.logs("", "SET k v", "SET k v NX");
        CHECK.logs("SET k v KEEPTTL", "set k v keepttl");
        CHECK.logs("SET k v KEEPTTL", "SET k v EX 9", "SET k v GET KEEPTTL XX");
        CHECK.logs("SET k v PXAT 9000", "SET k v NX EX 9");
        CHECK.logs("SET k v PXAT 9", "SET k v px 9");
        CHECK.logs("SET k v PXAT 9000", "SET k v EXAT 9");
        CHECK.logs("SET k v PXAT 9", "SET k v PXAT 9");
        CHECK.logs("SET k v PXAT 9000", "SETEX k 9 v");
        CHECK.logs("SET k v PXAT 9", "PSETEX k 9 v");
        CHECK.logs("SET k v", "SETNX k v");
        CHECK.logs("", "SET k v", "SETNX k v");
        CHECK.logs("SET k v", "GETSET k v");
        CHECK.logs("DEL k", "SET k v", "GETDEL k");
        CHECK.logs("", "GETDEL k");
        CHECK.logs("MSET a 1 b 2", "mset a 1 b 2");
        CHECK.logs("MSETNX a 1 b 2", "msetnx a 1 b 2");
        CHECK.logs("", "SET b v", "MSETNX a 1 b 2");
        CHECK.logs("APPEND k v", "append k v");
        CHECK.logs("SETRANGE k 3 v", "SETRANGE k 3 v");
        CHECK.logs("INCR k", "INCR k");
        CHECK.logs("INCRBY k 0", "SET k 1", "INCRBY k 0");
        CHECK.logs("DECRBY k 5", "decrby k 5");
        CHECK.logs("", "SET k x", "INCR k");
        CHECK.logs("SETBIT k 0 0", "SET k x", "SETBIT k 0 0");
        CHECK.logs("DEL a b x", "MSET a 1 b 2", "DEL a b x");
        CHECK.logs("", "DEL a b x");
        CHECK.logs("RENAME a b", "SET a v", "RENAME a b");
        CHECK.logs("", "SET a v", "RENAME a a");
        CHECK.logs("RENAMENX a b", "SET a v", "RENAMENX a b");
        CHECK.logs("", "MSET a v b v", "RENAMENX a b");
        CHECK.logs("FLUSHALL", "SET a v", "FLUSHALL");
        CHECK.logs("", "FLUSHALL");
        CHECK.logs("PEXPIREAT k 9000", "SET k v", "EXPIRE k 9");
        CHECK.logs("PEXPIREAT k 9", "SET k v", "PEXPIRE k 9");
        CHECK.logs("PEXPIREAT k 9000", "SET k v EX 9", "expireat k 9");
        CHECK.logs("PEXPIREAT k 9", "SET k v", "PEXPIREAT k 9");
        CHECK.logs("DEL k", "SET k v", "EXPIRE k 0");
        CHECK.logs("", "EXPIRE k 9");
        CHECK.logs("PERSIST k", "SET k v EX 9", "PERSIST k");
        CHECK.logs("", "SET k v", "PERSIST k");
        CHECK.logs("LPUSH l a b", "lpush l a b");
        CHECK.logs("", "LPUSHX l a b");
        CHECK.logs("RPUSHX l b", "RPUSH l a", "RPUSHX l b");
        CHECK.logs("LPOP l", "RPUSH l a", "LPOP l");
        CHECK.logs("RPOP l 5", "RPUSH l a", "RPOP l 5");
        CHECK.logs("", "RPUSH l a", "RPOP l 0");
        CHECK.logs("", "LPOP l");
        CHECK.logs("LSET l 0 a", "RPUSH l a", "LSET l 0 a");
        CHECK.logs("LINSERT l before a b", "RPUSH l a", "LINSERT l before a b");
        CHECK.logs("", "RPUSH l a", "LINSERT l before x b");
        CHECK.logs("LREM l 0 a", "RPUSH l a", "LREM l 0 a");
        CHECK.logs("", "RPUSH l a", "LREM l 0 b");
        CHECK.logs("LTRIM l 1 1", "RPUSH l a", "LTRIM l 1 1");
        CHECK.logs("", "RPUSH l a", "LTRIM l 0 0");
        CHECK.logs("LMOVE l l LEFT left", "RPUSH l a", "LMOVE l l LEFT left");
        CHECK.logs("", "LMOVE l l LEFT LEFT");
        CHECK.logs("RPOPLPUSH l m", "RPUSH l a", "RPOPLPUSH l m");
        CHECK.logs("HSET h f v", "HSET h f v", "HSET h f v");
        CHECK.logs("", "HSET h f v", "HSETNX h f v");
        CHECK.logs("HSETNX h g v", "HSET h f v", "HSETNX h g v");
        CHECK.logs("HDEL h f x", "HSET h f v", "HDEL h f x");
        CHECK.logs("", "HSET h f v", "HDEL h x");
        CHECK.logs("HINCRBY h f 0", "HINCRBY h f 0");
        CHECK.logs("SADD s a b", "SADD s a", "SADD s a b");
        CHECK.logs("", "SADD s a", "SADD s a");
        CHECK.logs("", "SADD s a", "SREM s b");
        CHECK.logs("SREM s a b", "SADD s a", "SREM s a b");
        CHECK.logs("SMOVE s t a", "SADD s a", "SADD t a", "SMOVE s t a");
        CHECK.logs("", "SADD s a", "SMOVE s s a");
        CHECK.logs("", "SADD s a", "SMOVE s t b");
        CHECK.logs("SPOP s", "SADD s a", "SPOP s");
        CHECK.logs("", "SPOP s");
        CHECK.logs("SUNIONSTORE d s", "SADD s a", "SUNIONSTORE d s");
        CHECK.logs("SINTERSTORE s x", "SADD s a", "SINTERSTORE s x");
        CHECK.logs("", "SADD s a", "SINTERSTORE d x");
        CHECK.logs("SDIFFSTORE s s", "SADD s a", "SDIFFSTORE s s");
        CHECK.logs("ZADD z ch 1 a", "ZADD z ch 1 a");
        CHECK.logs("", "ZADD z 1 a", "ZADD z 1 a");
        CHECK.logs("", "ZADD z 1 a", "ZADD z NX 2 a");
        CHECK.logs("ZADD z INCR 2 a", "ZADD z 1 a", "ZADD z INCR 2 a");
        CHECK.logs("", "ZADD z 1 a", "ZINCRBY z 0 a");
        CHECK.logs("ZINCRBY z 0 b", "ZADD z 1 a", "ZINCRBY z 0 b");
        CHECK.logs("ZREM z a", "ZADD z 1 a", "ZREM z a");
        CHECK.logs("ZREMRANGEBYRANK z 0 5", "ZADD z 1 a", "ZREMRANGEBYRANK z 0 5");
        CHECK.logs("", "ZADD z 1 a", "ZREMRANGEBYRANK z 1 5");
        CHECK.logs("ZREMRANGEBYSCORE z (0 5", "ZADD z 1 a", "ZREMRANGEBYSCORE z (0 5");
        CHECK.logs("ZPOPMIN z", "ZADD z 1 a", "ZPOPMIN z");
        CHECK.logs("ZPOPMAX z 2", "ZADD z 1 a", "ZPOPMAX z 2");
        CHECK.logs("", "ZADD z 1 a", "ZPOPMAX z 0");
        CHECK.logs("", "PUBLISH c v");
        CHECK.logs("", "MULTI", "SET k v");
        CHECK.logs("MULTI;SET k v;DEL k;EXEC", "MULTI", "SET k v NX", "GET k", "SET k w NX", "GETDEL k", "EXEC");
        CHECK.logs("", "MULTI", "GET k", "DEL k", "EXEC");
        CHECK.logs("MULTI;SET k v PXAT 1000;PEXPIREAT k 9;EXEC", "MULTI", "SETEX k 1 v", "PEXPIRE k 9", "EXEC");
        Client past = new Client();
        past.steward.pass(5000);
        past.ask(0, "SET k v EXAT 5");
        CHECK.due("a time that has come, no key", past.steward.log(), 0);
        past.ask(0, "SET k v");
        int before = past.steward.log();
        past.ask(0, "SET k w PXAT 1");
        CHECK.due("a time that has come", Client.shown(past.log().substring(before)), Check.starred("DEL k"));
        past.ask(0, "SET k v EX 2");
        past.ask(0, "SET l v PX 2");
        String log = past.log();
        CHECK.due("times in thousandths", Client.shown(log).endsWith(Check.starred("SET k v PXAT 7000;SET l v PXAT 5002")), true);
    }

    private static void fuseInBlock() {
        String whole = Client.star("MULTI") + Client.star("SET", "k", "v") + Client.star("INCR", "n") + Client.star("EXEC");
        for (int n = 0; n <= whole.length(); n++) {
            Client c = new Client();
            c.steward.fuse(n);
            int done = c.send(0, "MULTI\nSET k v\nINCR n\nEXEC\nPING\n");
            boolean lasts = n == whole.length();
            CHECK.due("send " + n, done, lasts ? 5 : -1);
            CHECK.due("log " + n, c.log(), whole.substring(0, n));
            CHECK.due("up " + n, c.steward.isUp(), lasts);
            if (!lasts) {
                CHECK.due("out " + n, c.steward.out(0), 0);
                CHECK.due("restart " + n, c.steward.restart(), 0);
                CHECK.due("log behind a restart " + n, c.steward.log(), 0);
                CHECK.due("keys behind a restart " + n, c.steward.total(0), 0);
            }
        }
        Client c = new Client();
        c.send(0, "MULTI\nSET k v\nINCR n\nEXEC\nSET x y\n");
        c.steward.crash();
        CHECK.due("a block counts as one", c.steward.restart(), 2);
        CHECK.due("keys", c.steward.total(0), 3);
    }

    private static void restarts() {
        Client c = new Client();
        c.ask(0, "SET a 1 PX 100");
        c.ask(0, "SET b 2 PX 200");
        c.ask(0, "SET c 3");
        c.steward.pass(100);
        String log = c.log();
        CHECK.due("log", Client.shown(log), Check.starred("SET a 1 PXAT 100;SET b 2 PXAT 200;SET c 3;DEL a"));
        c.steward.crash();
        c.steward.tear(log.length() - 1);
        CHECK.due("restart", c.steward.restart(), 3);
        CHECK.due("time stays", c.steward.now(), 100L);
        CHECK.due("what has come goes, which is logged", c.log(), log);
        CHECK.due("keys", c.steward.total(0), 2);
        CHECK.due("timed", c.steward.total(2), 1);
        c.steward.open(0);
        CHECK.script(c, "PTTL b", ":100|", "RENAME b a", "+OK|", "PEXPIREAT a 150", ":1|", "SET d 4", "+OK|");
        c.steward.pass(50);
        c.steward.crash();
        CHECK.due("restart", c.steward.restart(), 8);
        CHECK.due("keys", c.steward.total(0), 2);
        Client kept = new Client();
        kept.ask(0, "SET k v PX 10");
        kept.ask(0, "APPEND k w");
        kept.ask(0, "PERSIST k");
        kept.steward.pass(50);
        kept.steward.crash();
        kept.steward.restart();
        kept.steward.open(0);
        CHECK.script(kept, "GET k", "$2|vw|", "PTTL k", ":-1|");
    }

    private static void rewrites() {
        Client c = new Client();
        CHECK.due("of nothing", c.steward.rewrite(), 0);
        for (String line : new String[] {"SET t v EX 5", "RPUSH l b a b", "HSET h g 2 f 1", "SADD s b a", "ZADD z 2 a 1 b 1 aa -5 x",
            "PEXPIRE z 7", "SET gone v", "DEL gone", "SET \u00ff e"}) {
            c.ask(0, line);
        }
        String want = Check.starred("HSET h f 1 g 2;RPUSH l b a b;SADD s a b;SET t v PXAT 5000;ZADD z -5 x 1 aa 1 b 2 a;PEXPIREAT z 7;SET \u00ff e")
                .replace(Check.starred("SET t v PXAT 5000"), Check.starred("SET t v;PEXPIREAT t 5000"));
        int size = c.steward.rewrite();
        CHECK.due("log", Client.shown(c.log()), want);
        CHECK.due("its size", size, c.steward.log());
        c.ask(0, "INCR n");
        CHECK.due("the log goes on", Client.shown(c.log()), want + Check.starred("INCR n"));
        c.steward.crash();
        CHECK.due("restart", c.steward.restart(), 9);
        CHECK.due("keys", c.steward.total(0), 7);
        Client fused = new Client();
        fused.ask(0, "SET k v");
        fused.ask(0, "SET k w");
        for (int n = 0; n < 27; n++) {
            String old = fused.log();
            fused.steward.fuse(n);
            CHECK.due("fuse " + n, fused.steward.rewrite(), -1);
            CHECK.due("old log " + n, fused.log(), old);
            CHECK.due("down " + n, fused.steward.isUp(), false);
            CHECK.due("restart " + n, fused.steward.restart(), 2);
        }
        fused.steward.fuse(27);
        CHECK.due("just enough", fused.steward.rewrite(), 27);
        fused.steward.open(0);
        CHECK.due("none left", fused.send(0, "INCR n\n"), -1);
    }

    private static String numbered(String name, String key, int from, int to, String between) {
        StringBuilder all = new StringBuilder(name + " " + key);
        for (int i = from; i < to; i++) {
            all.append(" ").append(between.replace("#", "" + (10000 + i)));
        }
        return all.toString();
    }

    private static void longRewrites() {
        Client c = new Client();
        for (int i = 0; i < 2001; i++) {
            c.ask(0, "RPUSH l " + (10000 + i));
        }
        c.steward.rewrite();
        CHECK.due("a long list", Client.shown(c.log()), Check.starred(numbered("RPUSH", "l", 0, 1000, "#") + ";"
                + numbered("RPUSH", "l", 1000, 2000, "#") + ";" + numbered("RPUSH", "l", 2000, 2001, "#")));
        Client h = new Client();
        for (int i = 0; i < 501; i++) {
            h.ask(0, "HSET h " + (10000 + i) + " v");
            h.ask(0, "ZADD z 5 " + (10000 + i));
        }
        h.steward.rewrite();
        CHECK.due("a long hash and order", Client.shown(h.log()), Check.starred(numbered("HSET", "h", 0, 500, "# v") + ";"
                + numbered("HSET", "h", 500, 501, "# v") + ";" + numbered("ZADD", "z", 0, 500, "5 #") + ";"
                + numbered("ZADD", "z", 500, 501, "5 #")));
        h.steward.crash();
        CHECK.due("restart", h.steward.restart(), 4);
        Client s = new Client();
        for (int i = 0; i < 1000; i++) {
            s.ask(0, "SADD s " + (10999 - i));
        }
        s.steward.rewrite();
        CHECK.due("a set of 1000", Client.shown(s.log()), Check.starred(numbered("SADD", "s", 0, 1000, "#")));
    }

    public static void main(String[] args) {
        memory();
        replayedWithoutRefusal();
        logged();
        fuseInBlock();
        restarts();
        rewrites();
        longRewrites();
        CHECK.end();
    }
}
