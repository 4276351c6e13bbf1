import java.util.ArrayList;
import java.util.List;

/** TIME, MEMORY, THE LOG, FUSE, RESTART and REWRITE, sentence by sentence. */
public final class SentencesOfTheLog {
    private static final Check CHECK = new Check();
    private static final String[] ALL_SORTS = {"SET t 5", "RPUSH l a b", "HSET h f 1", "SADD s a b", "ZADD z 1 a"};

    private static Scene says(String sentence, String... setup) {
        return new Scene(CHECK, sentence, setup);
    }

    private static void time() {
        String sentence = "TIME is told, in thousandths; it is 0 at first. When it goes on, and behind a restart, all "
                + "keys whose time is not after now go, rising";
        Scene scene = says(sentence, "SET b v PX 10", "RPUSH a v", "PEXPIRE a 10", "SET c v PX 11",
                "SET \u00ff v PX 10", "SET d v");
        int before = scene.steward.log();
        scene.due("now", scene.steward.now(), 0L).passes(9, 0).totals(5, 5 * 66 + 16, 4).due("nothing logged",
                scene.steward.log(), before).passes(1, 3);
        scene.due("log", Client.shown(scene.client.log().substring(before)), Scene.starred("DEL a;DEL b;DEL \u00ff"))
                .answers("KEYS *", "*2|$1|c|$1|d|").passes(0, 0).passes(1, 1).passes(1000, 0)
                .answers("KEYS *", "*1|$1|d|").totals(1, 66, 0);
        Scene far = says(sentence, "SET b v PX 10", "SET a v PX 20", "SET c v PX 30");
        before = far.steward.log();
        far.passes(25, 2).due("log", Client.shown(far.client.log().substring(before)), Scene.starred("DEL a;DEL b"));
        // Behind a restart: the log is torn ahead of what went.
        far.steward.crash();
        far.steward.tear(before);
        far.due("restart", far.steward.restart(), 3).due("now", far.steward.now(), 25L).totals(1, 66, 1);
        far.due("log", Client.shown(far.client.log().substring(before)), Scene.starred("DEL a;DEL b"));
    }

    private static void memory() {
        String sentence = "a key is 64 and its length, and: a text its length; a list 16 and its length for each; a "
                + "hash 32 and both lengths; a set 24, an order 48 and the length for each";
        says(sentence, "SET '' ''").totals(1, 64, 0);
        says(sentence, "SET key hello").totals(1, 64 + 3 + 5, 0);
        says(sentence, "RPUSH key a bc ''").totals(1, 64 + 3 + 48 + 3, 0);
        says(sentence, "HSET key f value '' ''").totals(1, 64 + 3 + 64 + 6, 0);
        says(sentence, "SADD key a bcd ''").totals(1, 64 + 3 + 72 + 4, 0);
        says(sentence, "ZADD key 1234567 a -5 bcd 0 ''").totals(1, 64 + 3 + 144 + 4, 0);
        says(sentence, ALL_SORTS).totals(5, 5 * 65 + 1 + 34 + 34 + 50 + 49, 0);
        // A time takes nothing.
        says(sentence, "SET key hello EX 5").totals(1, 72, 1);
        String[] rows = {"SET k v", "APPEND k abc", "65+4", "SET k v", "SETRANGE k 9 v", "65+10", "SET k 9", "INCR k",
            "65+2", "SET k v", "SETBIT k 80 0", "65+11",
            "SET k v", "SET k ''", "65", "SET k v", "RENAME k kkk", "67+1", "RPUSH k a bb", "LPUSH k ccc",
            "65+17+18+19", "RPUSH k a bb", "LPOP k", "65+18",
            "RPUSH k a bb", "RPOP k", "65+17", "RPUSH k a bb", "LSET k 0 aaaa", "65+20+18", "RPUSH k a bb",
            "LINSERT k BEFORE a ccc", "65+17+18+19",
            "RPUSH k a bb", "LREM k 0 bb", "65+17", "RPUSH k a bb", "LTRIM k 1 1", "65+18", "RPUSH k a bb",
            "LMOVE k k LEFT RIGHT", "65+17+18",
            "RPUSH k a bb", "LMOVE k m LEFT RIGHT", "65+18+65+17", "HSET k f v", "HSET k f vvvv", "65+37", "HSET k f v",
            "HSETNX k gg v", "65+34+35",
            "HSET k f v g w", "HDEL k g", "65+34", "HSET k f 9", "HINCRBY k f 1", "65+35", "SADD k a bb", "SREM k a",
            "65+26", "SADD k a bb", "SMOVE k m bb", "65+25+65+26",
            "SADD k a bb", "SPOP k", "65+26", "SADD k a bb", "SUNIONSTORE m k", "65+25+26+65+25+26", "ZADD k 1 a 2 bb",
            "ZADD k 999 a", "65+49+50",
            "ZADD k 1 a 2 bb", "ZREM k a", "65+50", "ZADD k 1 a 2 bb", "ZPOPMAX k", "65+49", "ZADD k 1 a 2 bb",
            "ZINCRBY k 5 c", "65+49+50+49",
            "ZADD k 1 a 2 bb", "ZREMRANGEBYRANK k 0 0", "65+50", "ZADD k 1 a 2 bb", "ZREMRANGEBYSCORE k 2 2", "65+49",
            "RPUSH k a bb", "SET k v", "65+1",
            "SET k v", "GETDEL k", "0", "ZADD k 1 a", "SUNIONSTORE k none", "0"};
        for (int i = 0; i < rows.length; i += 3) {
            Scene scene = says(sentence, rows[i]);
            scene.ask(0, rows[i + 1]);
            int want = 0;
            for (String part : rows[i + 2].split("[+]")) {
                want += Integer.parseInt(part);
            }
            scene.due(rows[i] + "; " + rows[i + 1], scene.steward.total(1), want);
        }
    }

    /** A server whose keys take just so much, with a key of each sort. */
    private static Scene filled(String sentence, int memory) {
        Scene scene = says(sentence, ALL_SORTS);
        for (int i = 0; i < 3; i++) {
            scene.answers("SETRANGE big" + i + " 16383 x", ":16384|");
        }
        int rest = memory - scene.steward.total(1) - 68;
        return scene.answers("SETRANGE rest " + (rest - 1) + " x", ":" + rest + "|").due("memory",
                scene.steward.total(1), memory);
    }

    private static void fullMemory() {
        String sentence = "While all keys together are 60000 or more, -OOM: commands that are in capitals here";
        String[] filling = {"SET t v", "SET n v NX", "SET none v XX", "GETSET t v", "SETNX n v", "SETNX t v",
            "SETEX t 1 v", "PSETEX t 1 v", "MSET t v", "MSETNX t v", "APPEND t ''", "SETRANGE t 0 v", "SETRANGE t 0 ''",
            "INCR t", "DECR t", "INCRBY t 0", "DECRBY t 1", "SETBIT t 0 0", "LPUSH l v", "RPUSH l v", "LPUSHX l v",
            "RPUSHX none v", "LSET l 0 a", "LSET none 0 v", "LINSERT l BEFORE x v", "LMOVE l l LEFT LEFT",
            "LMOVE none none LEFT LEFT", "RPOPLPUSH l l", "HSET h f 1", "HSETNX h f v", "HINCRBY h f 1", "SADD s a",
            "SINTERSTORE d s", "SINTERSTORE s none", "SUNIONSTORE d s", "SDIFFSTORE d s", "ZADD z 1 a",
            "ZADD z XX 1 none", "ZINCRBY z 0 a"};
        for (String line : filling) {
            filled(sentence, 60000).keeps(line, "-OOM|");
            Scene almost = filled(sentence, 59999);
            almost.due(line, almost.ask(0, line).equals("-OOM|"), false);
        }
        filled(sentence, 60001).keeps("SET t v", "-OOM|");
        // The others are done, those that make keys longer, too.
        String[] others = {"GETDEL t", "$1|5|", "DEL t", ":1|", "RENAME t muchlonger", "+OK|", "RENAMENX t muchlonger",
            ":1|", "EXPIRE t 5", ":1|", "PEXPIREAT t 5", ":1|", "LPOP l", "$1|a|", "RPOP l 1", "*1|$1|b|",
            "LREM l 0 a", ":1|", "LTRIM l 0 0", "+OK|", "HDEL h f", ":1|", "SREM s a", ":1|", "SPOP s", "$1|a|",
            "SMOVE s s2 a", ":1|", "ZREM z a", ":1|", "ZREMRANGEBYRANK z 0 0", ":1|", "ZREMRANGEBYSCORE z 1 1", ":1|",
            "ZPOPMIN z", "*2|$1|a|$1|1|", "ZPOPMAX z", "*2|$1|a|$1|1|"};
        for (int i = 0; i < others.length; i += 2) {
            Scene scene = filled(sentence, 60000);
            int log = scene.steward.log();
            scene.answers(others[i], others[i + 1]).due("logged: " + others[i], scene.steward.log() > log, true);
        }
        filled(sentence, 60000).keepsAll("GET t", "$1|5|", "MGET t l", "*2|$1|5|$-1|", "STRLEN t", ":1|",
                "GETRANGE t 0 0",
                "$1|5|", "GETBIT t 2", ":1|", "BITCOUNT t", ":4|", "EXISTS t", ":1|", "TYPE t", "+string|", "KEYS t",
                "*1|$1|t|", "DBSIZE", ":9|", "TTL t", ":-1|", "PTTL t", ":-1|", "PERSIST t", ":0|", "EXPIRE none 5",
                ":0|",
                "EXPIREAT none 5", ":0|", "PEXPIRE none 5", ":0|", "LLEN l", ":2|", "LRANGE l 0 0", "*1|$1|a|",
                "LINDEX l 1",
                "$1|b|", "HGET h f", "$1|1|", "HMGET h f", "*1|$1|1|", "HEXISTS h f", ":1|", "HLEN h", ":1|",
                "HSTRLEN h f",
                ":1|", "HKEYS h", "*1|$1|f|", "HVALS h", "*1|$1|1|", "HGETALL h", "*2|$1|f|$1|1|", "SISMEMBER s a",
                ":1|",
                "SMISMEMBER s a", "*1|:1|", "SCARD s", ":2|", "SMEMBERS s", "*2|$1|a|$1|b|", "SINTER s",
                "*2|$1|a|$1|b|",
                "SUNION s", "*2|$1|a|$1|b|", "SDIFF s", "*2|$1|a|$1|b|", "ZSCORE z a", "$1|1|", "ZCARD z", ":1|",
                "ZRANK z a",
                ":0|", "ZREVRANK z a", ":0|", "ZRANGE z 0 0", "*1|$1|a|", "ZREVRANGE z 0 0", "*1|$1|a|",
                "ZRANGEBYSCORE z 1 1",
                "*1|$1|a|", "ZREVRANGEBYSCORE z 1 1", "*1|$1|a|", "ZCOUNT z 1 1", ":1|", "PUBLISH c v", ":0|", "ECHO v",
                "$1|v|", "TIME", "*2|$1|0|$1|0|", "WATCH k", "+OK|", "UNWATCH", "+OK|", "PING", "+PONG|");
        // Below it one command may go beyond by as much as it likes.
        Scene beyond = filled(sentence, 59999);
        beyond.answers("APPEND t " + "x".repeat(16383), ":16384|").keeps("SET t v", "-OOM|").answers("DEL big0", ":1|")
                .answers("SET t v", "+OK|");
        filled(sentence, 60000).answers("DEL z", ":1|").answers("SADD z a", ":1|");
    }

    private static void fullMemoryInBlock() {
        String sentence = "(Looked at when they run.)";
        filled(sentence, 60000).holds("MULTI", "+OK|", "SET t v", "+QUEUED|", "DEL big0", "+QUEUED|", "SET t w",
                "+QUEUED|", "EXEC", "*3|-OOM|:1|+OK|", "GET t", "$1|w|");
        filled(sentence, 59990).holds("MULTI", "+OK|", "SET n v", "+QUEUED|", "SET m v", "+QUEUED|", "EXEC",
                "*2|+OK|-OOM|");
    }

    private static void changedIsLogged() {
        String sentence = "Each command that CHANGED something is logged, ahead of its answer, as a request with *, "
                + "its name in capitals, its args as they were";
        Scene scene = says(sentence);
        scene.comes(0, "  rPush   l  A b \r\n", 1, ":2|").logIs("RPUSH l A b").comes(0, "linsert l before A x\n", 1,
                ":3|").comes(0, "zAdd z nx Ch 1 M\n", 1, ":1|").comes(0, "lmove l l left Right\n", 1, "$1|x|")
                .logIs("RPUSH l A b;LINSERT l before A x;ZADD z nx Ch 1 M;LMOVE l l left Right");
        Scene bytes = says(sentence);
        String word = "\u0000\r\n*\u00ff";
        bytes.client.send(0, Client.star("append", word, word));
        bytes.due("bytes", bytes.client.log(), Client.star("APPEND", word, word));
        // Ahead of its answer: with no byte of the disk left there is no answer.
        Scene ahead = says(sentence);
        ahead.steward.fuse(0);
        ahead.due("send", ahead.client.send(0, "SET k v\n"), -1).outputs(0, "").logIs("");
    }

    private static void loggedAsSet() {
        String sentence = "SET, SETEX, PSETEX as SET k v, with KEEPTTL if it was told, or PXAT and the time in "
                + "thousandths, if it has one; SETNX, GETSET as SET k v";
        Scene scene = says(sentence);
        scene.passes(100, 0).changes("set k v", "+OK|", "SET k v").changes("SET k v xx get", "$1|v|", "SET k v")
                .changes("SET k v EX 5", "+OK|", "SET k v PXAT 5100").changes("SET k v keepttl", "+OK|",
                "SET k v KEEPTTL")
                .changes("SET k v GET KEEPTTL XX", "$1|v|", "SET k v KEEPTTL").changes("SET k v px 5", "+OK|",
                "SET k v PXAT 105").changes("SET k v exat 5", "+OK|", "SET k v PXAT 5000")
                .changes("SET k v GET PXAT 700 XX", "$1|v|", "SET k v PXAT 700").changes("SETEX k 5 v", "+OK|",
                "SET k v PXAT 5100").changes("PSETEX k 5 v", "+OK|", "SET k v PXAT 105").changes("GETSET k v", "$1|v|",
                "SET k v")
                .changes("SETNX n v", ":1|", "SET n v").changes("SET new v KEEPTTL", "+OK|", "SET new v KEEPTTL")
                .changes("MSET k v n w", "+OK|").changes("MSETNX a b", ":1|");
    }

    private static void loggedTimes() {
        String sentence = "EXPIRE and the like as PEXPIREAT k and the time";
        Scene scene = says(sentence, "SET k v");
        scene.passes(100, 0).changes("expire k 5", ":1|", "PEXPIREAT k 5100").changes("PEXPIRE k 5", ":1|",
                "PEXPIREAT k 105").changes("EXPIREAT k 5", ":1|", "PEXPIREAT k 5000").changes("pexpireat k 500", ":1|",
                "PEXPIREAT k 500");
    }

    private static void loggedAsDel() {
        String sentence = "where a key that was there is gone by them (by SET and the like with a time not after now, "
                + "too; of one that wasn't there nothing is logged or changed), and GETDEL, as DEL k";
        String[] gone = {"EXPIRE k 0", ":1|", "PEXPIRE k -1", ":1|", "EXPIREAT k 1", ":1|", "PEXPIREAT k 1000", ":1|",
            "SET k w EXAT 1", "+OK|", "SET k w PXAT 1000", "+OK|", "SET k w XX GET PXAT 1", "$1|v|", "GETDEL k",
            "$1|v|"};
        String[] absent = {":0|", ":0|", ":0|", ":0|", "+OK|", "+OK|", "$-1|", "$-1|"};
        for (int i = 0; i < gone.length; i += 2) {
            Scene there = says(sentence, "SET k v");
            there.passes(1000, 0).changes(gone[i], gone[i + 1], "DEL k").answers("EXISTS k", ":0|");
            Scene without = says(sentence);
            without.passes(1000, 0).keeps(gone[i], absent[i / 2]);
        }
    }

    private static void setAnew() {
        String sentence = "a key set anew to what it was (SET, MSET, HSET, LSET, SETBIT, EXPIRE, INCRBY 0, S..STORE) "
                + "is changed, too";
        says(sentence, ALL_SORTS).changes("SET t 5", "+OK|").changes("MSET t 5", "+OK|").changes("HSET h f 1", ":0|")
                .changes("LSET l 0 a", "+OK|").changes("SETBIT t 0 0", ":0|").changes("PEXPIREAT t 9", ":1|")
                .changes("PEXPIREAT t 9", ":1|").changes("PERSIST t", ":1|").changes("INCRBY t 0", ":5|")
                .changes("DECRBY t 0", ":5|").changes("HINCRBY h f 0", ":1|").changes("SUNIONSTORE s s", ":2|")
                .changes("SINTERSTORE s s", ":2|").changes("SDIFFSTORE s s", ":2|").changes("GETSET t 5", "$1|5|",
                "SET t 5").changes("SETRANGE t 0 5", ":1|");
        says("SET to the same text changes, too", "SET k v").changes("SET k v", "+OK|").changes("SET k v XX", "+OK|",
                "SET k v");
    }

    private static void nothingChanged() {
        String sentence = "nothing is changed by commands that find nothing to take, add, set or move: DEL, PERSIST, "
                + "FLUSHALL without keys, SREM, SADD of members that are there, ZADD, ZINCRBY that leave all scores "
                + "and "
                + "add nothing, SETRANGE with v empty, RENAME to itself, SMOVE to the same set, LTRIM that takes "
                + "nothing, S..STORE of nothing to a key that isn't there";
        says(sentence).keeps("FLUSHALL", "+OK|");
        says(sentence, ALL_SORTS).keepsAll("DEL none", ":0|", "PERSIST t", ":0|", "PERSIST none", ":0|", "SREM s x",
                ":0|", "SREM none x", ":0|", "SADD s a b a", ":0|", "ZADD z 1 a", ":0|", "ZADD z CH 1 a 1 a", ":0|",
                "ZADD z NX 5 a", ":0|", "ZADD z XX 5 none", ":0|", "ZADD z GT 0 a", ":0|", "ZADD z LT 2 a", ":0|",
                "ZADD z INCR 0 a", "$1|1|", "ZINCRBY z 0 a", "$1|1|", "SETRANGE t 0 ''", ":1|", "SETRANGE none 9 ''",
                ":0|",
                "RENAME t t", "+OK|", "RENAMENX t t", ":0|", "RENAMENX t l", ":0|", "SMOVE s s a", ":1|",
                "SMOVE s none x", ":0|", "LTRIM l 0 -1", "+OK|", "LTRIM l 0 1", "+OK|", "SINTERSTORE d s none", ":0|",
                "SUNIONSTORE d none", ":0|", "SDIFFSTORE d s s", ":0|", "LPOP l 0", "*0|", "RPOP l 0", "*0|",
                "LPOP none", "$-1|", "LREM l 0 x", ":0|", "LINSERT l BEFORE x v", ":-1|", "LPUSHX none v", ":0|",
                "LMOVE none l LEFT LEFT", "$-1|", "HDEL h x", ":0|", "HSETNX h f 9", ":0|", "SPOP none", "$-1|",
                "ZREM z x", ":0|", "ZREMRANGEBYRANK z 5 9", ":0|", "ZREMRANGEBYSCORE z 5 9", ":0|", "ZPOPMIN z 0",
                "*0|",
                "ZPOPMAX none", "*0|", "SETNX t v", ":0|", "MSETNX n v t v", ":0|", "SET t v NX", "$-1|",
                "SET none v XX", "$-1|", "GETDEL none", "$-1|", "EXPIRE none 5", ":0|");
        says("(APPEND of nothing and LMOVE within one list do change)", ALL_SORTS).changes("APPEND t ''", ":1|")
                .changes("APPEND none ''", ":0|").changes("LMOVE l l LEFT LEFT", "$1|a|")
                .changes("LMOVE l l RIGHT RIGHT", "$1|b|")
                .changes("RPOPLPUSH l l", "$1|b|");
    }

    private static void blocksInTheLog() {
        String sentence = "A block in which something changed: MULTI, what changed, EXEC";
        says(sentence, "MULTI", "GET k", "SET k v NX", "SET k w NX", "DEL none", "setex k 1 x", "GETDEL k", "INCR n")
                .logIs("").answers("EXEC", "*7|$-1|+OK|$-1|:0|+OK|$1|x|:1|")
                .logIs("MULTI;SET k v;SET k x PXAT 1000;DEL k;INCR n;EXEC");
        says(sentence, "MULTI", "GET k", "DEL k", "INCRBY k x", "PUBLISH c v").answers("EXEC",
                "*4|$-1|:0|-ERR integer|:0|").logIs("");
        says(sentence, "MULTI").answers("EXEC", "*0|").logIs("");
        says(sentence, "MULTI", "INCR n").answers("EXEC", "*1|:1|").logIs("MULTI;INCR n;EXEC");
        says(sentence, "MULTI", "INCR n").answers("DISCARD", "+OK|").logIs("");
        says(sentence, "MULTI", "INCR n").answers("NOSUCH", "-ERR unknown|").answers("EXEC", "-EXECABORT|").logIs("");
    }

    private static void goneByTime() {
        String sentence = "Keys whose time has come: DEL k, one by one";
        Scene scene = says(sentence, "SET a v PX 5", "SET b v PX 5");
        scene.passes(5, 2).logIs("SET a v PXAT 5;SET b v PXAT 5;DEL a;DEL b");
    }

    private static void fuse() {
        String sentence = "The FUSE lets so many bytes more onto the disk; the first one beyond stops the server at "
                + "once";
        String first = Client.star("SET", "k", "v");
        String second = Client.star("INCR", "n");
        String both = first + second;
        for (int n = 0; n <= both.length(); n++) {
            Scene scene = says(sentence);
            scene.steward.fuse(n);
            boolean lasts = n == both.length();
            scene.due("send " + n, scene.client.send(0, "SET k v\nGET k\nINCR n\nPING\n"), lasts ? 4 : -1)
                    .due("up " + n, scene.steward.isUp(), lasts).due("log " + n, scene.client.log(), both.substring(0,
                    n));
            scene.due("restart " + n, scene.steward.restart(), lasts ? -1 : n >= first.length() ? 1 : 0)
                    .due("keys " + n, scene.steward.total(0), lasts ? 2 : n >= first.length() ? 1 : 0);
        }
        // What writes nothing needs no room.
        Scene empty = says(sentence, "SET k v");
        empty.steward.fuse(0);
        empty.keepsAll("GET k", "$1|v|", "DEL none", ":0|", "MULTI", "+OK|", "GET k", "+QUEUED|", "EXEC", "*1|$1|v|")
                .passes(5, 0).due("rewrite", empty.steward.rewrite(), -1);
    }

    private static void stopped() {
        String sentence = "(what came of that command isn't answered; all connections close, their outputs are "
                + "emptied; state, watches, blocks are gone)";
        Scene scene = says(sentence, "SET j v");
        scene.client.send(1, "PING\nWATCH j\nMULTI\nPING\nEC");
        scene.client.send(2, "SUBSCRIBE c\n");
        scene.client.send(3, "PING\n");
        int log = scene.steward.log();
        scene.steward.fuse(5);
        scene.due("send", scene.client.send(0, "PING\nGET j\nSET k v\nPING\n"), -1).due("up", scene.steward.isUp(),
                false).due("log", scene.steward.log(), log + 5).totals(0, 0, 0);
        for (int i = 0; i < 4; i++) {
            scene.isOpen(i, false).outputs(i, "").due("send " + i, scene.client.send(i, "PING\n"), -1).due("open " + i,
                    scene.steward.open(i), false);
        }
        scene.due("restart", scene.steward.restart(), 1);
        for (int i = 0; i < 4; i++) {
            scene.isOpen(i, false).outputs(i, "").due("open " + i, scene.steward.open(i), true);
        }
        scene.comes(1, "HO a\n", 1, "-ERR unknown|").answers("SET j w", "+OK|").by(1, "EXEC", "-ERR none|").by(1,
                "MULTI", "+OK|").by(1, "EXEC", "*0|").answers("PUBLISH c v", ":0|").by(2, "GET k", "$-1|");
    }

    /** What is no command of the log can't come into it from outside: it has what was logged, torn at any byte. */
    private static void restartReads() {
        String sentence = "A RESTART reads the log: requests as above (with * alone), from the first byte on, up to "
                + "the first place where no whole request, "
                + "or one that is no command of the log, or a block without its EXEC, begins: what is from there on "
                + "goes from the log";
        Scene whole = says(sentence, "SET a 1", "MULTI", "SET b 2", "INCR c", "EXEC", "RPUSH l x");
        String log = whole.client.log();
        int afterSet = Client.star("SET", "a", "1").length();
        int afterBlock = log.length() - Client.star("RPUSH", "l", "x").length();
        for (int n = 0; n <= log.length(); n++) {
            Scene scene = says(sentence, "SET a 1", "MULTI", "SET b 2", "INCR c", "EXEC", "RPUSH l x");
            scene.steward.crash();
            scene.due("tear " + n, scene.steward.tear(n), true);
            int left = n < afterSet ? 0 : n < afterBlock ? afterSet : n < log.length() ? afterBlock : n;
            int ran = n < afterSet ? 0 : n < afterBlock ? 1 : n < log.length() ? 2 : 3;
            scene.due("restart at " + n, scene.steward.restart(), ran).due("log at " + n, scene.client.log(),
                    log.substring(0, left)).due("keys at " + n, scene.steward.total(0), ran == 0 ? 0 : ran == 1 ? 1
                    : ran + 1);
        }
    }

    private static void restartRuns() {
        String sentence = "All are run (nothing goes by time meanwhile, nothing is logged or refused for room). Then "
                + "keys whose time has come go, which is logged";
        // At its time the key was there and took the rest along; the log tells all of it behind that time, too.
        Scene scene = says(sentence, "SET k v PX 10", "APPEND k w", "RENAME k m", "PERSIST m", "SET j v PX 10",
                "RPUSH l a", "PEXPIRE l 10");
        String log = scene.client.log();
        scene.passes(10, 2);
        scene.steward.crash();
        scene.steward.tear(log.length());
        scene.due("restart", scene.steward.restart(), 7).due("log", scene.client.log(), log + Client.star("DEL",
                "j") + Client.star("DEL", "l")).totals(1, 64 + 1 + 2, 0);
        scene.steward.open(0);
        scene.holds("GET m", "$2|vw|", "PTTL m", ":-1|");
        // SET .. PXAT and PEXPIREAT of times that have come since, set anew or taken away behind it.
        Scene anew = says(sentence, "SET k v PX 10", "SET k w KEEPTTL", "SET k x", "RPUSH l a", "PEXPIRE l 5",
                "RPUSH l b", "PEXPIRE l 500");
        anew.passes(100, 0);
        anew.steward.crash();
        anew.due("restart", anew.steward.restart(), 7);
        anew.steward.open(0);
        anew.holds("GET k", "$1|x|", "LRANGE l 0 -1", "*2|$1|a|$1|b|", "PTTL l", ":400|");
        // KEEPTTL of a key whose time has come since keeps it in the log's run.
        Scene kept = says(sentence, "SET k v PX 10", "SET k w KEEPTTL", "PERSIST k");
        kept.passes(100, 0);
        kept.steward.crash();
        kept.due("restart", kept.steward.restart(), 3);
        kept.steward.open(0);
        kept.holds("GET k", "$1|w|", "PTTL k", ":-1|");
    }

    /** Whatever changed something: the log that tells it brings the same state back. */
    private static void comesBack() {
        String sentence = "and a log of all changes, synced ahead of each answer, from which the state comes back "
                + "after a "
                + "crash at any of its bytes";
        String[] setup = {"SET t 5", "SET x v PX 700", "RPUSH l a b a", "HSET h f 1 g 2", "SADD s a b", "SADD s2 b c",
            "ZADD z 1 a 2 b 3 c", "PEXPIRE z 900"};
        String[] lines = {"SET t v", "SET t v NX", "SET t v EX 5", "SET x w KEEPTTL", "SET x w", "GETDEL t",
            "GETSET x w", "SETNX n v",
            "SETEX t 5 v", "PSETEX t 5 v", "MSET t 1 x 2 n 3", "MSETNX n 1 m 2", "APPEND t ''", "APPEND n ''",
            "SETRANGE t 4 v",
            "INCR t", "DECR t", "INCRBY t -7", "DECRBY t 9", "SETBIT t 20 1", "DEL t x none", "RENAME x t",
            "RENAMENX x n",
            "FLUSHALL", "EXPIRE t 5", "PEXPIRE t 5", "EXPIREAT t 5", "PEXPIREAT t 5", "EXPIRE x -5", "PERSIST x",
            "LPUSH l c d",
            "RPUSH n c d", "LPUSHX l c", "RPUSHX l c", "LPOP l", "LPOP l 2", "RPOP l", "RPOP l 9", "LSET l 1 v",
            "LINSERT l AFTER b v", "LREM l -1 a", "LREM l 0 a", "LTRIM l 1 1", "LTRIM l 5 6", "LMOVE l n LEFT LEFT",
            "LMOVE l l RIGHT LEFT", "RPOPLPUSH l n", "HSET h f 3 n 4", "HSETNX h n 4", "HDEL h f", "HDEL h f g",
            "HINCRBY h f 9",
            "SADD s d a", "SREM s a", "SREM s a b", "SMOVE s s2 a", "SMOVE s s2 b", "SINTERSTORE n s s2",
            "SUNIONSTORE s s s2",
            "SDIFFSTORE t s s2", "SINTERSTORE t none", "SPOP s", "ZADD z 5 a 6 d", "ZADD z NX 5 a 6 d",
            "ZADD z GT INCR 5 a",
            "ZREM z a", "ZREM z a b c", "ZINCRBY z 5 a", "ZREMRANGEBYRANK z 0 1", "ZREMRANGEBYSCORE z (1 3",
            "ZPOPMIN z", "ZPOPMAX z 2"};
        for (String line : lines) {
            for (int way = 0; way < 2; way++) {
                Scene scene = says(sentence, setup);
                if (way == 1) {
                    scene.ask(0, "MULTI");
                }
                scene.ask(0, line);
                scene.ask(0, way == 1 ? "EXEC" : "PING");
                String before = scene.state();
                scene.steward.crash();
                scene.due("restart", scene.steward.restart(), line.endsWith("v NX") ? 8 : 9);
                for (int i = 0; i < 4; i++) {
                    scene.steward.open(i);
                }
                scene.due("behind " + line, scene.state(), before);
            }
        }
    }

    private static void restartWithoutRefusal() {
        String sentence = "nothing is logged or refused for room)";
        // The rewritten log tells the keys one by one, the last ones when the others take more than 60000 already.
        Scene scene = filled(sentence, 59000);
        String most = "x".repeat(16384);
        scene.answers("MSET k1 " + most + " k2 " + most + " k3 v", "+OK|");
        int memory = scene.steward.total(1);
        scene.due("full", memory > 60000, true);
        for (int i = 0; i < 2; i++) {
            String log = scene.client.log();
            scene.steward.crash();
            scene.steward.restart();
            scene.due("memory behind it", scene.steward.total(1), memory).due("keys behind it", scene.steward.total(0),
                    12).due("log behind it", scene.client.log(), log);
            scene.steward.rewrite();
        }
        scene.steward.open(0);
        scene.answers("SET t v", "-OOM|");
    }

    private static void rewriteOrder() {
        String sentence = "A REWRITE makes a new log of the state as it is, key by key rising: texts SET k v; RPUSH, "
                + "HSET, SADD, ZADD";
        Scene scene = says(sentence, "SET t v PX 70", "RPUSH l b a b", "HSET h g 2 f 1", "SADD s b a",
                "ZADD z 2 a 1 b 1 aa -5 x", "PEXPIRE z 7", "SET gone v", "DEL gone", "SET \u00ff ''", "SET T 1");
        String want = "SET T 1;HSET h f 1 g 2;RPUSH l b a b;SADD s a b;SET t v;PEXPIREAT t 70;ZADD z -5 x 1 aa 1 b 2 "
                + "a;PEXPIREAT z 7;SET \u00ff ''";
        int size = scene.steward.rewrite();
        scene.logIs(want).due("its bytes", size, scene.steward.log());
        String state = scene.state();
        scene.answers("INCR n", ":1|").logIs(want + ";INCR n").answers("DEL n", ":1|");
        scene.due("again", scene.steward.rewrite(), size).logIs(want).due("the state stays", scene.state(), state);
        scene.steward.crash();
        scene.due("restart", scene.steward.restart(), 9).logIs(want);
        says(sentence).due("of nothing", new KeySteward().rewrite(), 0);
    }

    private static void rewriteTimes() {
        Scene scene = says("then PEXPIREAT k t, if it has a time", "SET a v", "SET b v PX 5", "RPUSH c v",
                "PEXPIRE c 7", "HSET d f v", "PEXPIREAT d 9007199254740991");
        scene.passes(4, 0);
        scene.steward.rewrite();
        scene.logIs("SET a v;SET b v;PEXPIREAT b 5;RPUSH c v;PEXPIREAT c 7;HSET d f v;PEXPIREAT d 9007199254740991");
        scene.steward.crash();
        scene.due("restart", scene.steward.restart(), 7).totals(4, 4 * 65 + 1 + 1 + 17 + 34, 3);
        scene.steward.open(0);
        scene.holds("PTTL a", ":-1|", "PTTL b", ":1|", "PTTL c", ":3|", "PTTL d", ":9007199254740987|");
    }

    private static String numbered(String name, int from, int to, String form) {
        StringBuilder all = new StringBuilder(name + " k");
        for (int i = from; i < to; i++) {
            all.append(" ").append(form.replace("#", "" + (1000 + i)));
        }
        return all.toString();
    }

    private static void rewriteParts() {
        String sentence = "with at most 1000 words behind the key (pairs not parted), in the order in which they are "
                + "told, as long as needed";
        String[] forms = {"RPUSH", "#", "SADD", "#", "HSET", "# v", "ZADD", "5 #"};
        for (int i = 0; i < forms.length; i += 2) {
            int part = i < 4 ? 1000 : 500;
            for (int many : new int[] {1, part - 1, part, part + 1, 2 * part, 2 * part + 1}) {
                Scene scene = says(sentence);
                for (int from = 0; from < many; from += 300) {
                    scene.ask(0, numbered(forms[i], from, Math.min(many, from + 300), forms[i + 1]));
                }
                scene.answers("PEXPIRE k 9", ":1|");
                scene.steward.rewrite();
                List<String> want = new ArrayList<>();
                for (int from = 0; from < many; from += part) {
                    want.add(numbered(forms[i], from, Math.min(many, from + part), forms[i + 1]));
                }
                scene.logIs(String.join(";", want) + ";PEXPIREAT k 9");
            }
        }
    }

    private static void rewriteAndFuse() {
        String sentence = "It takes the old one's place when all of it is on the disk (its bytes count for the FUSE)";
        String old = "SET k v;SET k w";
        int size = Client.star("SET", "k", "w").length();
        for (int n = 0; n <= size + 1; n++) {
            Scene scene = says(sentence, "SET k v", "SET k w");
            scene.steward.fuse(n);
            boolean lasts = n >= size;
            scene.due("rewrite " + n, scene.steward.rewrite(), lasts ? size : -1).due("up " + n, scene.steward.isUp(),
                    lasts).logIs(lasts ? "SET k w" : old);
            if (lasts) {
                scene.due("left of " + n, scene.client.send(0, "INCR n\n"), -1).due("log " + n, scene.steward.log(), n);
            } else {
                scene.due("restart " + n, scene.steward.restart(), 2).due("keys " + n, scene.steward.total(0), 1);
            }
        }
    }

    public static void main(String[] args) {
        time();
        memory();
        fullMemory();
        fullMemoryInBlock();
        changedIsLogged();
        loggedAsSet();
        loggedTimes();
        loggedAsDel();
        setAnew();
        nothingChanged();
        blocksInTheLog();
        goneByTime();
        fuse();
        stopped();
        restartReads();
        restartRuns();
        comesBack();
        restartWithoutRefusal();
        rewriteOrder();
        rewriteTimes();
        rewriteParts();
        rewriteAndFuse();
        CHECK.end();
    }
}
