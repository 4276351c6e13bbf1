import java.util.ArrayList;
import java.util.List;

/** What COMMANDS says of all commands, sentence by sentence: names, args, integers, refusals, sorts and times. */
public final class SentencesOfCommands {
    private static final Check CHECK = new Check();
    private static final String[] ALL_SORTS = {"SET t 5", "RPUSH l a b", "HSET h f 1", "SADD s a b", "ZADD z 1 a"};

    /** Each name with the numbers of args that it takes: with / either, with + any more, with ++ any two more. */
    private static final String NUMBERS = "GET 1,SET 2+,GETDEL 1,GETSET 2,SETNX 2,SETEX 3,PSETEX 3,MGET 1+,MSET "
    + "2++,MSETNX 2++,APPEND 2,STRLEN 1,"
            + "GETRANGE 3,SETRANGE 3,INCR 1,DECR 1,INCRBY 2,DECRBY 2,SETBIT 3,GETBIT 2,BITCOUNT 1/3,"
            + "DEL 1+,EXISTS 1+,TYPE 1,RENAME 2,RENAMENX 2,KEYS 1,DBSIZE 0,FLUSHALL 0,EXPIRE 2,PEXPIRE 2,EXPIREAT "
            + "2,PEXPIREAT 2,"
            + "PERSIST 1,TTL 1,PTTL 1,LPUSH 2+,RPUSH 2+,LPUSHX 2+,RPUSHX 2+,LPOP 1/2,RPOP 1/2,LLEN 1,LRANGE 3,LINDEX "
            + "2,LSET 3,"
            + "LINSERT 4,LREM 3,LTRIM 3,LMOVE 4,RPOPLPUSH 2,HSET 3++,HSETNX 3,HGET 2,HMGET 2+,HDEL 2+,HEXISTS 2,HLEN "
            + "1,HSTRLEN 2,"
            + "HKEYS 1,HVALS 1,HGETALL 1,HINCRBY 3,SADD 2+,SREM 2+,SISMEMBER 2,SMISMEMBER 2+,SCARD 1,SMEMBERS 1,SMOVE "
            + "3,SINTER 1+,"
            + "SUNION 1+,SDIFF 1+,SINTERSTORE 2+,SUNIONSTORE 2+,SDIFFSTORE 2+,SPOP 1,ZADD 3+,ZREM 2+,ZSCORE 2,ZINCRBY "
            + "3,ZCARD 1,"
            + "ZRANK 2,ZREVRANK 2,ZRANGE 3+,ZREVRANGE 3+,ZRANGEBYSCORE 3+,ZREVRANGEBYSCORE 3+,ZCOUNT "
            + "3,ZREMRANGEBYRANK 3,"
            + "ZREMRANGEBYSCORE 3,ZPOPMIN 1/2,ZPOPMAX 1/2,PING 0/1,ECHO 1,QUIT 0,WATCH 1+,UNWATCH 0,MULTI 0,EXEC "
            + "0,DISCARD 0,"
            + "SUBSCRIBE 1+,UNSUBSCRIBE 0+,PUBLISH 2,TIME 0";

    /** Requests whose keys # must have a sort, ahead of each its letter: text, list, hash, set or order (z). */
    private static final String[] FORMS = {"t GET #", "t SET # v GET", "t SET # v XX GET", "t SET # v NX GET",
        "t GETDEL #",
        "t GETSET # v", "t APPEND # v", "t APPEND # ''",
        "t STRLEN #", "t GETRANGE # 0 1", "t SETRANGE # 0 v", "t SETRANGE # 0 ''", "t INCR #", "t DECR #",
        "t INCRBY # 1", "t DECRBY # 1",
        "t SETBIT # 0 1", "t GETBIT # 0", "t BITCOUNT #", "t BITCOUNT # 0 1",
        "l LPUSH # v", "l RPUSH # v w", "l LPUSHX # v", "l RPUSHX # v", "l LPOP #", "l LPOP # 1", "l LPOP # 0",
        "l RPOP #", "l RPOP # 0", "l LLEN #",
        "l LRANGE # 0 1", "l LINDEX # 0", "l LSET # 0 v", "l LINSERT # BEFORE a v", "l LREM # 0 v", "l LTRIM # 0 1",
        "l LMOVE # none LEFT LEFT", "l LMOVE none # LEFT LEFT", "l LMOVE l # LEFT LEFT", "l LMOVE # l LEFT LEFT",
        "l LMOVE # # LEFT LEFT",
        "l RPOPLPUSH # none", "l RPOPLPUSH none #", "l RPOPLPUSH l #", "l RPOPLPUSH # l",
        "h HSET # f v", "h HSETNX # f v", "h HGET # f", "h HMGET # f g", "h HDEL # f", "h HEXISTS # f", "h HLEN #",
        "h HSTRLEN # f", "h HKEYS #",
        "h HVALS #", "h HGETALL #", "h HINCRBY # f 1", "s SADD # m", "s SREM # m", "s SISMEMBER # m",
        "s SMISMEMBER # m n", "s SCARD #", "s SMEMBERS #",
        "s SMOVE # none a", "s SMOVE none # a", "s SMOVE s # a", "s SMOVE s # x", "s SMOVE # s a", "s SINTER #",
        "s SINTER none #", "s SINTER s #",
        "s SINTER # s", "s SUNION #", "s SUNION none #", "s SUNION s #", "s SDIFF #", "s SDIFF none #",
        "s SDIFF s none #", "s SINTERSTORE d #",
        "s SINTERSTORE d none #", "s SINTERSTORE s s #", "s SUNIONSTORE d s #", "s SUNIONSTORE # #",
        "s SDIFFSTORE d none #", "s SDIFFSTORE d # s",
        "s SPOP #", "z ZADD # 1 m", "z ZADD # XX 1 m", "z ZADD # INCR 1 m", "z ZREM # m", "z ZSCORE # m",
        "z ZINCRBY # 1 m", "z ZCARD #",
        "z ZRANK # m", "z ZREVRANK # m", "z ZRANGE # 0 1", "z ZREVRANGE # 0 1", "z ZRANGEBYSCORE # 1 2",
        "z ZREVRANGEBYSCORE # 2 1",
        "z ZRANGEBYSCORE # 1 2 LIMIT -1 0", "z ZCOUNT # 1 2", "z ZREMRANGEBYRANK # 0 1", "z ZREMRANGEBYSCORE # 1 2",
        "z ZPOPMIN #", "z ZPOPMIN # 0",
        "z ZPOPMAX #", "z ZPOPMAX # 2"};

    private static Scene says(String sentence, String... setup) {
        return new Scene(CHECK, sentence, setup);
    }

    private static boolean takes(String numbers, int args) {
        int least = numbers.charAt(0) - '0';
        if (numbers.endsWith("++")) {
            return args >= least && (args - least) % 2 == 0;
        }
        return numbers.endsWith("+") ? args >= least
                : args == least || numbers.length() > 1 && args == numbers.charAt(2) - '0';
    }

    private static void names() {
        String sentence = "COMMANDS: the first word, in letters of any size";
        says(sentence).holds("SET k v", "+OK|", "get k", "$1|v|", "gEt k", "$1|v|", "zRangeByScore z 1 2", "*0|");
        for (String row : NUMBERS.split(",")) {
            String name = row.split(" ")[0];
            for (String spelt : new String[] {name, name.toLowerCase(), name.substring(0, 1) + name.substring(1)
                    .toLowerCase()}) {
                Scene scene = says(sentence);
                String answer = scene.ask(0, spelt + " x".repeat(row.split(" ")[1].charAt(0) - '0'));
                scene.due(spelt, answer.startsWith("-ERR unknown") || answer.startsWith("-ERR arity"), false);
            }
        }
    }

    private static void unknownNames() {
        String sentence = "First the NAME must be there (-ERR unknown)";
        Scene scene = says(sentence, ALL_SORTS);
        for (String row : NUMBERS.split(",")) {
            String name = row.split(" ")[0];
            for (String other : new String[] {name + "Q", name + "\u0000", name.substring(1) + "\u00ff", "Q" + name,
                name + "{"}) {
                scene.keeps(other + " t 1", "-ERR unknown|");
            }
        }
        scene.keepsAll("'' t", "-ERR unknown|", "GE t", "-ERR unknown|", "OBJECT t", "-ERR unknown|", "PSUBSCRIBE c",
                "-ERR unknown|",
                "HGETDEL h f", "-ERR unknown|", "GETEX t", "-ERR unknown|", "ZREVRANGEBYSCORES z 1 2", "-ERR unknown|");
    }

    private static void numbersOfArgs() {
        String sentence = "then the number of args be right, pairs too but for ZADD (-ERR arity";
        for (String row : NUMBERS.split(",")) {
            String name = row.split(" ")[0];
            for (int args : new int[] {0, 1, 2, 3, 4, 5, 6, 7, 1022, 1023}) {
                boolean right = takes(row.split(" ")[1], args);
                Scene scene = says(sentence);
                if (!right) {
                    scene.keeps(name + " x".repeat(args), "-ERR arity|");
                    continue;
                }
                scene.due(name + " with " + args, scene.ask(0, name + " x".repeat(args)).startsWith("-ERR arity"),
                        false);
            }
        }
        says(sentence).keepsAll("MSET a 1 b", "-ERR arity|", "MSETNX a 1 b", "-ERR arity|", "HSET h f 1 g",
                "-ERR arity|",
                "HSET h f", "-ERR arity|", "ZADD z 1 a 2", "-ERR syntax|", "ZADD z 1", "-ERR arity|");
    }

    private static void optionalArgs() {
        String sentence = "[ ] may be left out, ... again and again";
        says(sentence, ALL_SORTS).holds("SET k v", "+OK|", "BITCOUNT k", ":5|", "BITCOUNT k 0 0", ":5|", "LPOP l",
                "$1|a|", "LPOP l 1", "*1|$1|b|", "ZRANGE z 0 -1", "*1|$1|a|", "ZRANGE z 0 -1 WITHSCORES",
                "*2|$1|a|$1|1|",
                "ZPOPMIN z", "*2|$1|a|$1|1|", "PING", "+PONG|", "PING v", "$1|v|", "UNSUBSCRIBE",
                "*3|$11|unsubscribe|$-1|:0|", "UNSUBSCRIBE c", "*3|$11|unsubscribe|$1|c|:0|",
                "ZADD z 1 a", ":1|", "ZADD z CH 2 a", ":1|", "ZRANGEBYSCORE z 1 2", "*1|$1|a|",
                "ZRANGEBYSCORE z 1 2 LIMIT 0 1", "*1|$1|a|");
        for (String row : "MGET,DEL,EXISTS,SINTER,SUNION,SDIFF,WATCH".split(",")) {
            for (int many : new int[] {1, 2, 64, row.equals("WATCH") ? 64 : 1023}) {
                Scene scene = says(sentence);
                scene.due(row + " of " + many, scene.ask(0, row + " x".repeat(many)).startsWith("-"), false);
            }
        }
        for (String row : "RPUSH,LPUSH,RPUSHX,HMGET,HDEL,SADD,SREM,SMISMEMBER,ZREM,SUNIONSTORE".split(",")) {
            for (int many : new int[] {1, 2, 1022}) {
                Scene scene = says(sentence);
                scene.due(row + " of " + many, scene.ask(0, row + " k" + " x".repeat(many)).startsWith("-"), false);
            }
        }
        says(sentence).answers("MSET" + " k v".repeat(511), "+OK|").answers("MSETNX" + " n v".repeat(511), ":1|")
                .answers("HSET h" + " f v".repeat(511), ":1|").answers("ZADD z" + " 1 m".repeat(511), ":1|");
    }

    private static void aheadOfMode() {
        String sentence = "both ahead of -ERR mode";
        for (String row : NUMBERS.split(",")) {
            String name = row.split(" ")[0];
            int least = row.split(" ")[1].charAt(0) - '0';
            boolean free = "PING QUIT SUBSCRIBE UNSUBSCRIBE".contains(name);
            Scene scene = says(sentence, "SUBSCRIBE c");
            if (!free) {
                scene.keeps(name + " x".repeat(least), "-ERR mode|");
            }
            if (least > 0) {
                scene.keeps(name + " x".repeat(least - 1), "-ERR arity|");
            }
            scene.keeps(name + "Q", "-ERR unknown|");
        }
        says(sentence, "MULTI").answers("SUBSCRIBE", "-ERR arity|").answers("SUBSCRIBE c", "-ERR mode|")
                .answers("UNSUBSCRIBE c", "-ERR mode|");
    }

    private static void moreArgs() {
        String sentence = "where words in [ ] stand for themselves, any more args are a matter of syntax";
        Scene scene = says(sentence, ALL_SORTS);
        for (String line : new String[] {"SET t v", "SET t v NX", "SET t v XX GET", "SET t v EX 5", "ZRANGE z 0 1",
            "ZRANGE z 0 1 WITHSCORES",
            "ZREVRANGE z 0 1", "ZREVRANGE z 0 1 WITHSCORES", "ZRANGEBYSCORE z 0 1",
            "ZRANGEBYSCORE z 0 1 WITHSCORES LIMIT 0 1",
            "ZREVRANGEBYSCORE z 1 0", "ZREVRANGEBYSCORE z 1 0 LIMIT 0 1"}) {
            scene.keeps(line + " more", "-ERR syntax|");
            scene.keeps(line + " more and more", "-ERR syntax|");
            scene.keeps(line + " ''", "-ERR syntax|");
        }
        // Words in [ ] that are no words for themselves are a matter of the number.
        scene.keepsAll("LPOP l 1 more", "-ERR arity|", "RPOP l 1 more", "-ERR arity|", "BITCOUNT t 0", "-ERR arity|",
                "BITCOUNT t 0 1 more", "-ERR arity|",
                "ZPOPMIN z 1 more", "-ERR arity|", "ZPOPMAX z 1 more", "-ERR arity|", "PING a more", "-ERR arity|");
    }

    private static void integers() {
        String sentence = "INTEGERS: - or nothing, then digits without a 0 ahead (but 0 itself, without -), within 64 "
                + "bits; all else is -ERR integer";
        says(sentence).holds("INCRBY n 0", ":0|", "INCRBY n 7", ":7|", "INCRBY n -7", ":0|", "INCRBY n 10", ":10|",
                "INCRBY n -10", ":0|",
                "INCRBY n 9223372036854775807", ":9223372036854775807|", "SET n 0", "+OK|",
                "INCRBY n -9223372036854775808", ":-9223372036854775808|",
                "SET n 0", "+OK|", "INCRBY n 9000000000000000000", ":9000000000000000000|");
        String[] bad = {"''", "-", "+1", "01", "-01", "-0", "00", "1x", "x", "1.0", "1e3", "0x1", "\t1", "1\t", "--1",
            "1-", "9223372036854775808",
            "-9223372036854775809", "9223372036854775810", "18446744073709551616", "18446744073709551617",
            "10000000000000000000",
            "-10000000000000000000", "99999999999999999999", "-99999999999999999999", "123456789012345678901234567890",
            "\u00b2", "/", ":", "1\r", "1\u0000"};
        String[] lines = {"SET k v EX #", "SET k v PX #", "SET k v EXAT #", "SET k v PXAT #", "SETEX k # v",
            "PSETEX k # v", "GETRANGE k # 0",
            "GETRANGE k 0 #", "SETRANGE k # v", "INCRBY k #", "DECRBY k #", "SETBIT k # 1", "GETBIT k #",
            "BITCOUNT k # 0", "BITCOUNT k 0 #",
            "EXPIRE k #", "PEXPIRE k #", "EXPIREAT k #", "PEXPIREAT k #", "LPOP k #", "RPOP k #", "LRANGE k # 0",
            "LRANGE k 0 #", "LINDEX k #",
            "LSET k # v", "LREM k # v", "LTRIM k # 0", "LTRIM k 0 #", "HINCRBY k f #", "ZADD k # m", "ZADD k 1 a # m",
            "ZADD k INCR # m",
            "ZINCRBY k # m", "ZRANGE k # 0", "ZRANGE k 0 #", "ZREVRANGE k # 0", "ZREVRANGE k 0 #",
            "ZRANGEBYSCORE k 1 2 LIMIT # 0",
            "ZRANGEBYSCORE k 1 2 LIMIT 0 #", "ZREVRANGEBYSCORE k 2 1 LIMIT # 0", "ZREVRANGEBYSCORE k 2 1 LIMIT 0 #",
            "ZREMRANGEBYRANK k # 0",
            "ZREMRANGEBYRANK k 0 #", "ZPOPMIN k #", "ZPOPMAX k #"};
        Scene scene = says(sentence, "SET t 5");
        for (String line : lines) {
            for (String number : bad) {
                scene.keeps(line.replace("#", number), "-ERR integer|");
            }
            for (String number : new String[] {"0", "1", "-1", "10", "9223372036854775807", "-9223372036854775808"}) {
                String told = line.replace("#", number);
                scene.due(told, says(sentence).ask(0, told).equals("-ERR integer|"), false);
            }
        }
        // A text or a value of a hash that is to be an integer is looked at in the same way.
        for (String number : bad) {
            Scene held = says(sentence, "SET k " + number, "HSET h f " + number);
            held.keepsAll("INCR k", "-ERR integer|", "DECR k", "-ERR integer|", "INCRBY k 1", "-ERR integer|",
                    "DECRBY k 1", "-ERR integer|",
                    "HINCRBY h f 1", "-ERR integer|");
        }
    }

    /** A server whose memory is full, with a key of each sort. */
    private static Scene full(String sentence) {
        Scene scene = says(sentence, ALL_SORTS);
        for (int i = 0; i < 4; i++) {
            scene.answers("SETRANGE big" + i + " 16383 x", ":16384|");
        }
        return scene;
    }

    private static void orderOfRefusals() {
        String sentence = "then, in this order: -ERR syntax where words that stand for themselves (in letters of any "
                + "size) don't fit; -ERR integer, the left one first; "
                + "-ERR range or -ERR time of what they say; -OOM (below); -WRONGTYPE when a key has another sort of "
                + "value than it must (any of them, whether others are there or not); "
                + "then what else is said";
        full(sentence).keepsAll("SET l v GET EX x no", "-ERR syntax|", "SET l v GET EX x", "-ERR integer|",
                "SET l v GET EX 0", "-ERR time|",
                "SET l v GET EX 1", "-OOM|", "LINSERT t BESIDE a v", "-ERR syntax|", "LINSERT t BEFORE a v", "-OOM|",
                "LMOVE t t UP LEFT", "-ERR syntax|", "LMOVE t t LEFT UP", "-ERR syntax|", "LMOVE t t LEFT LEFT",
                "-OOM|",
                "ZADD t NX XX x m", "-ERR syntax|", "ZADD t x m 1", "-ERR syntax|", "ZADD t x m", "-ERR integer|",
                "ZADD t 1 m", "-OOM|",
                "SETRANGE l x v", "-ERR integer|", "SETRANGE l -1 v", "-ERR range|", "SETRANGE l 16384 v", "-OOM|",
                "SETBIT l x 2", "-ERR integer|", "SETBIT l -1 1", "-ERR range|", "SETBIT l 131072 1", "-ERR range|",
                "SETBIT l 0 2", "-ERR range|",
                "SETBIT l 0 1", "-OOM|", "SETEX l x v", "-ERR integer|", "SETEX l 0 v", "-ERR time|", "SETEX l 1 v",
                "-OOM|",
                "PSETEX l x v", "-ERR integer|", "PSETEX l 0 v", "-ERR time|", "PSETEX l 1 v", "-OOM|", "INCRBY l x",
                "-ERR integer|",
                "INCRBY l 1", "-OOM|", "HINCRBY t f x", "-ERR integer|", "HINCRBY t f 1", "-OOM|", "ZINCRBY t x m",
                "-ERR integer|",
                "ZINCRBY t 1 m", "-OOM|", "LSET t x v", "-ERR integer|", "LSET t 9 v", "-OOM|", "APPEND l v", "-OOM|",
                "GETSET l v", "-OOM|",
                "SADD t m", "-OOM|", "SUNIONSTORE d t", "-OOM|", "RPOPLPUSH t t", "-OOM|");
        says(sentence, ALL_SORTS).keepsAll("SET l v GET EX 1", "-WRONGTYPE|", "SET l v GET NX", "-WRONGTYPE|",
                "SETRANGE l 16384 v", "-WRONGTYPE|", "SETRANGE t 16384 v", "-ERR size|",
                "LSET t 9 v", "-WRONGTYPE|", "LSET l 9 v", "-ERR range|", "LPOP t x", "-ERR integer|", "LPOP t -1",
                "-ERR range|",
                "LPOP t 1", "-WRONGTYPE|", "RPOP t x", "-ERR integer|", "RPOP t -1", "-ERR range|", "RPOP t 1",
                "-WRONGTYPE|",
                "ZPOPMIN t x", "-ERR integer|", "ZPOPMIN t -1", "-ERR range|", "ZPOPMIN t 1", "-WRONGTYPE|",
                "ZPOPMAX t -1", "-ERR range|",
                "GETBIT l x", "-ERR integer|", "GETBIT l -1", "-ERR range|", "GETBIT l 1", "-WRONGTYPE|",
                "ZRANGE t x y no", "-ERR syntax|",
                "ZRANGE t x y", "-ERR integer|", "ZRANGE t 0 1", "-WRONGTYPE|", "ZRANGEBYSCORE t x 1 no",
                "-ERR syntax|",
                "ZRANGEBYSCORE t 1 2 LIMIT x 1", "-ERR integer|", "ZRANGEBYSCORE t 1 2 LIMIT 0 1", "-WRONGTYPE|",
                "LINSERT t BEFORE a v", "-WRONGTYPE|",
                "LMOVE none t LEFT LEFT", "-WRONGTYPE|", "EXPIRE t 9007199254740992", "-ERR time|",
                "EXPIRE none 9007199254740992", "-ERR time|",
                "GETRANGE l x 0", "-ERR integer|", "BITCOUNT l 0 x", "-ERR integer|", "LTRIM t 0 x", "-ERR integer|",
                "LREM t x v", "-ERR integer|");
        // The left one first: a bound and an integer are told by different words.
        says(sentence, ALL_SORTS).keepsAll("ZRANGEBYSCORE z x 2 LIMIT y 1", "-ERR bound|",
                "ZRANGEBYSCORE z 1 x LIMIT y 1", "-ERR bound|",
                "ZRANGEBYSCORE z 1 2 LIMIT y 1", "-ERR integer|", "ZREVRANGEBYSCORE z 2 x LIMIT y 1", "-ERR bound|",
                "ZREVRANGEBYSCORE z 2 1 LIMIT 0 y", "-ERR integer|");
    }

    private static void wrongSorts() {
        String sentence = "-WRONGTYPE when a key has another sort of value than it must (any of them, whether others "
                + "are there or not)";
        for (String form : FORMS) {
            String must = form.substring(0, 1);
            String line = form.substring(2);
            for (String sort : new String[] {"t", "l", "h", "s", "z"}) {
                if (!sort.equals(must)) {
                    says(sentence, ALL_SORTS).keeps(line.replace("#", sort), "-WRONGTYPE|");
                }
            }
            Scene right = says(sentence, ALL_SORTS);
            right.due(line + " of its sort", right.ask(0, line.replace("#", must)).startsWith("-WRONGTYPE"), false);
        }
        // Those that take any sort.
        for (String line : new String[] {"SET # v", "SET # v XX", "SETNX # v", "SETEX # 1 v", "PSETEX # 1 v", "MGET #",
            "MSET # v", "MSETNX # v", "DEL #", "EXISTS #",
            "TYPE #", "RENAME # n", "RENAME n2 #", "RENAMENX # n", "EXPIRE # 1", "PERSIST #", "TTL #", "WATCH #",
            "SUNIONSTORE # s2", "SINTERSTORE # s2"}) {
            for (String sort : new String[] {"t", "l", "h", "s", "z"}) {
                Scene scene = says(sentence, ALL_SORTS);
                scene.answers("SADD s2 m", ":1|").answers("SET n2 v", "+OK|");
                scene.due(line + " of " + sort, scene.ask(0, line.replace("#", sort)).startsWith("-"), false);
            }
        }
    }

    private static void wordsThatAreNoKeys() {
        String sentence = "k is a key, v, m, f are words";
        for (String form : FORMS) {
            String must = form.substring(0, 1);
            String line = form.substring(2).replace("#", must);
            Scene scene = says(sentence, ALL_SORTS);
            for (String word : line.split(" ")) {
                if (!"t l h s z d none".contains(word)) {
                    scene.ask(0, (must.equals("l") ? "SET " : "RPUSH ") + word + " x");
                }
            }
            scene.due(line + ", with keys of those names", scene.ask(0, line).startsWith("-WRONGTYPE"), false);
        }
        says(sentence, "SET DEL v", "SET EXISTS v", "SET b v").keepsAll("DEL none", ":0|", "EXISTS none", ":0|")
                .changes("MSETNX a b", ":1|").answers("GET a", "$1|b|").answers("GET b", "$1|v|");
        says(sentence, "WATCH k", "SET WATCH v", "MULTI").answers("EXEC", "*0|");
        says(sentence, "SUBSCRIBE c").by(1, "PUBLISH SUBSCRIBE v", ":0|").by(1, "PUBLISH c c", ":1|")
                .outputs(0, "*3|$7|message|$1|c|$1|c|");
    }

    private static void sameWords() {
        String sentence = "A WORD is a row of bytes";
        says(sentence, "SET k k").holds("GET k", "$1|k|", "APPEND k k", ":2|", "GET k", "$2|kk|");
        says(sentence, "RPUSH l l x l").holds("LINDEX l 0", "$1|l|", "LINSERT l BEFORE l l", ":4|", "LSET l 3 l",
                "+OK|",
                "LREM l 0 l", ":3|", "LRANGE l 0 -1", "*1|$1|x|");
        says(sentence, "HSET h f h h 1").holds("HGET h f", "$1|h|", "HMGET h f h", "*2|$1|h|$1|1|", "HVALS h",
                "*2|$1|h|$1|1|",
                "HSTRLEN h f", ":1|", "HINCRBY h f 1", "-ERR integer|", "HSETNX h f x", ":0|", "HDEL h f", ":1|",
                "HGETALL h", "*2|$1|h|$1|1|");
        says(sentence, "HSET 5 5 5").holds("HINCRBY 5 5 1", ":6|", "HGETALL 5", "*2|$1|5|$1|6|");
        says(sentence, "SADD s s a").holds("SREM s a", ":1|", "SMEMBERS s", "*1|$1|s|", "SISMEMBER s s", ":1|",
                "SPOP s",
                "$1|s|", "EXISTS s", ":0|");
        says(sentence, "ZADD 1 1 1 2 a").holds("ZREM 1 a", ":1|", "ZSCORE 1 1", "$1|1|", "ZRANGE 1 0 -1", "*1|$1|1|",
                "ZRANK 1 1",
                ":0|", "ZINCRBY 1 1 1", "$1|2|", "ZPOPMIN 1 1", "*2|$1|1|$1|2|");
    }

    private static void emptyKeys() {
        String sentence = "A key whose list, hash, set or order becomes empty is gone";
        String[] rows = {"RPUSH k a", "LPOP k", "RPUSH k a", "RPOP k", "RPUSH k a b", "LPOP k 2", "RPUSH k a b",
            "RPOP k 9", "RPUSH k a a", "LREM k 0 a",
            "RPUSH k a a", "LREM k 2 a", "RPUSH k a a", "LREM k -2 a", "RPUSH k a b", "LTRIM k 2 5", "RPUSH k a b",
            "LTRIM k 1 0",
            "HSET k f v g w", "HDEL k f g", "SADD k a b", "SREM k b a", "SADD k a", "SPOP k", "ZADD k 1 a 2 b",
            "ZREM k a b",
            "ZADD k 1 a 2 b", "ZREMRANGEBYRANK k 0 -1", "ZADD k 1 a 2 b", "ZREMRANGEBYSCORE k 1 2", "ZADD k 1 a",
            "ZPOPMIN k", "ZADD k 1 a", "ZPOPMAX k",
            "ZADD k 1 a 2 b", "ZPOPMIN k 2", "ZADD k 1 a 2 b", "ZPOPMAX k 3", "SADD k a", "SINTERSTORE k none",
            "SADD k a", "SDIFFSTORE k k k"};
        for (int i = 0; i < rows.length; i += 2) {
            Scene scene = says(sentence, rows[i], "EXPIRE k 5");
            scene.ask(0, rows[i + 1]);
            scene.holds("EXISTS k", ":0|", "TYPE k", "+none|", "KEYS *", "*0|", "PTTL k", ":-2|", "SET k v", "+OK|",
                    "PTTL k", ":-1|", "DEL k", ":1|")
                    .totals(0, 0, 0);
        }
        String[] moves = {"RPUSH k a", "LMOVE k m LEFT LEFT", "RPUSH k a", "RPOPLPUSH k m", "SADD k a", "SMOVE k m a"};
        for (int i = 0; i < moves.length; i += 2) {
            Scene scene = says(sentence, moves[i], "EXPIRE k 5");
            scene.ask(0, moves[i + 1]);
            scene.holds("EXISTS k", ":0|", "KEYS *", "*1|$1|m|", "PTTL m", ":-1|").due("keys with a time",
                    scene.steward.total(2), 0);
        }
        // One that keeps something stays, and so does an empty text.
        says(sentence, "RPUSH k a b", "LPOP k", "RPUSH m a", "LMOVE m m LEFT RIGHT", "SADD s a", "SMOVE s s a",
                "HSET h f v g v", "HDEL h f", "SET e ''")
                .holds("KEYS *", "*5|$1|e|$1|h|$1|k|$1|m|$1|s|", "GET e", "$0||");
    }

    private static void absentKeys() {
        String sentence = "ABSENT keys are read as empty ones";
        says(sentence).keepsAll("GET k", "$-1|", "GETDEL k", "$-1|", "MGET k k", "*2|$-1|$-1|", "STRLEN k", ":0|",
                "GETRANGE k 0 -1", "$0||", "GETBIT k 0", ":0|",
                "BITCOUNT k", ":0|", "BITCOUNT k 0 -1", ":0|", "SETRANGE k 5 ''", ":0|", "DEL k", ":0|", "EXISTS k k",
                ":0|", "TYPE k", "+none|", "KEYS *", "*0|",
                "DBSIZE", ":0|", "FLUSHALL", "+OK|", "EXPIRE k 5", ":0|", "PEXPIRE k 5", ":0|", "EXPIREAT k 5", ":0|",
                "PEXPIREAT k 5", ":0|", "EXPIRE k -5", ":0|",
                "PERSIST k", ":0|", "TTL k", ":-2|", "PTTL k", ":-2|", "LPUSHX k v", ":0|", "RPUSHX k v", ":0|",
                "LPOP k", "$-1|", "LPOP k 1", "*-1|", "RPOP k", "$-1|",
                "RPOP k 0", "*-1|", "LLEN k", ":0|", "LRANGE k 0 -1", "*0|", "LINDEX k 0", "$-1|",
                "LINSERT k BEFORE a v", ":0|", "LREM k 0 v", ":0|",
                "LTRIM k 0 0", "+OK|", "LTRIM k 5 0", "+OK|", "LMOVE k k LEFT LEFT", "$-1|", "LMOVE k m LEFT LEFT",
                "$-1|", "RPOPLPUSH k m", "$-1|", "HGET k f", "$-1|",
                "HMGET k f g", "*2|$-1|$-1|", "HDEL k f", ":0|", "HEXISTS k f", ":0|", "HLEN k", ":0|", "HSTRLEN k f",
                ":0|", "HKEYS k", "*0|", "HVALS k", "*0|",
                "HGETALL k", "*0|", "SREM k m", ":0|", "SISMEMBER k m", ":0|", "SMISMEMBER k m n", "*2|:0|:0|",
                "SCARD k", ":0|", "SMEMBERS k", "*0|", "SMOVE k m a", ":0|",
                "SINTER k", "*0|", "SUNION k m", "*0|", "SDIFF k m", "*0|", "SINTERSTORE d k", ":0|", "SUNIONSTORE d k",
                ":0|", "SDIFFSTORE d k", ":0|", "SPOP k", "$-1|",
                "ZADD k XX 1 m", ":0|", "ZADD k XX INCR 1 m", "$-1|", "ZREM k m", ":0|", "ZSCORE k m", "$-1|",
                "ZCARD k", ":0|", "ZRANK k m", "$-1|",
                "ZREVRANK k m", "$-1|", "ZRANGE k 0 -1", "*0|", "ZREVRANGE k 0 -1 WITHSCORES", "*0|",
                "ZRANGEBYSCORE k -inf +inf", "*0|",
                "ZREVRANGEBYSCORE k +inf -inf LIMIT 0 5", "*0|", "ZCOUNT k -inf +inf", ":0|", "ZREMRANGEBYRANK k 0 -1",
                ":0|", "ZREMRANGEBYSCORE k -inf +inf", ":0|",
                "ZPOPMIN k", "*0|", "ZPOPMAX k 5", "*0|", "WATCH k", "+OK|", "PUBLISH k v", ":0|");
        says(sentence).changes("APPEND a v", ":1|").changes("SETRANGE b 1 v", ":2|").changes("INCR c", ":1|")
                .changes("DECR d", ":-1|").changes("SETBIT e 0 0", ":0|")
                .changes("LPUSH f v", ":1|").changes("HSET g f v", ":1|").changes("HSETNX h f v", ":1|")
                .changes("HINCRBY i f 0", ":0|").changes("SADD j m", ":1|")
                .changes("ZADD k 1 m", ":1|").changes("ZINCRBY l 0 m", "$1|0|").changes("ZADD m INCR 0 m", "$1|0|");
    }

    private static void rising() {
        String sentence = "RISING is by bytes without sign, a beginning of another word first";
        String[] words = {"", "\u0000", "\u0000\u0000", "\u0001", "A", "B", "a", "a\u0000", "aa", "aaa", "ab", "b",
            "\u007f", "\u0080", "\u0080a", "\u00fe", "\u00ff", "\u00ff\u00ff"};
        StringBuilder row = new StringBuilder("*" + words.length + "\r\n");
        for (String word : words) {
            row.append("$" + word.length() + "\r\n" + word + "\r\n");
        }
        Scene scene = says(sentence);
        List<String> members = new ArrayList<>();
        for (int i = 0; i < words.length; i++) {
            members.add(words[(i * 7 + 3) % words.length]);
        }
        for (String word : members) {
            scene.client.send(0, Client.star("SET", word, "1") + Client.star("HSET", "hash", word,
                    "v") + Client.star("SADD", "set", word)
                    + Client.star("ZADD", "order", "5", word) + Client.star("SADD", word.length() % 2 == 0 ? "even"
                    : "odd", word));
        }
        scene.client.send(0, "SUNIONSTORE both even odd\n");
        scene.client.taken(0);
        for (String line : new String[] {"HKEYS hash", "SMEMBERS set", "ZRANGE order 0 -1", "SUNION odd even",
            "SMEMBERS both", "SDIFF set none", "SINTER set both",
            "ZRANGEBYSCORE order 5 5"}) {
            scene.due(line, scene.client.ask(0, line), row.toString());
        }
        scene.client.send(0, "DEL hash set order both even odd\nKEYS *\n");
        scene.due("KEYS", scene.client.taken(0), ":6\r\n" + row);
        for (String word : members) {
            scene.client.send(0, Client.star("SADD", "set", word) + Client.star("SUBSCRIBE",
                    word) + Client.star("UNSUBSCRIBE"));
        }
        scene.client.taken(0);
        for (String word : words) {
            scene.due("SPOP", scene.client.ask(0, "SPOP set"), "$" + word.length() + "\r\n" + word + "\r\n");
        }
        scene.client.send(0, Client.star(members.toArray(new String[0])).replaceFirst("\\*18\r\n",
                "*19\r\n\\$9\r\nSUBSCRIBE\r\n"));
        scene.client.taken(0);
        String left = scene.client.ask(0, "UNSUBSCRIBE");
        StringBuilder want = new StringBuilder();
        for (int i = 0; i < words.length; i++) {
            want.append("*3\r\n$11\r\nunsubscribe\r\n$" + words[i].length() + "\r\n" + words[i]
                    + "\r\n:" + (words.length - 1 - i) + "\r\n");
        }
        scene.due("UNSUBSCRIBE", left, want.toString());
    }

    private static void timesThatStay() {
        String sentence = "A key's time stays but where it is told that it goes";
        String[] rows = {"SET k 5", "APPEND k 1", "SET k 5", "APPEND k ''", "SET k 5", "SETRANGE k 3 v", "SET k 5",
            "INCR k", "SET k 5", "DECR k", "SET k 5", "INCRBY k 7",
            "SET k 5", "DECRBY k 7", "SET k 5", "SETBIT k 1 1", "SET k 5", "SET k 6 KEEPTTL", "SET k 5", "SET k 6 NX",
            "SET k 5", "SETNX k 6", "SET k 5", "MSETNX k 6 m 7",
            "SET k 5", "GET k", "SET k 5", "SET k v EX 0", "SET k 5", "RENAME k k", "SET k 5", "RENAMENX k k",
            "RPUSH k a b", "LPUSH k c", "RPUSH k a b", "RPUSH k c",
            "RPUSH k a b", "LPUSHX k c", "RPUSH k a b", "RPUSHX k c", "RPUSH k a b", "LPOP k", "RPUSH k a b", "RPOP k",
            "RPUSH k a b", "LSET k 0 c",
            "RPUSH k a b", "LINSERT k AFTER a c", "RPUSH k a b", "LREM k 1 a", "RPUSH k a b", "LTRIM k 0 0",
            "RPUSH k a b", "LMOVE k k LEFT RIGHT", "RPUSH k a", "LMOVE k k LEFT RIGHT",
            "RPUSH k a b", "LMOVE k m LEFT LEFT", "RPUSH k a b", "LMOVE l k LEFT LEFT", "RPUSH k a b", "RPOPLPUSH l k",
            "HSET k f 1 g 2", "HSET k f 3", "HSET k f 1 g 2", "HSETNX k h 3",
            "HSET k f 1 g 2", "HDEL k f", "HSET k f 1 g 2", "HINCRBY k f 1", "SADD k a b", "SADD k c", "SADD k a b",
            "SREM k a", "SADD k a b", "SMOVE k m a", "SADD k a b", "SMOVE s k x",
            "SADD k a b", "SPOP k", "ZADD k 1 a 2 b", "ZADD k 5 c", "ZADD k 1 a 2 b", "ZADD k INCR 5 a",
            "ZADD k 1 a 2 b", "ZINCRBY k 5 a", "ZADD k 1 a 2 b", "ZREM k a",
            "ZADD k 1 a 2 b", "ZREMRANGEBYRANK k 0 0", "ZADD k 1 a 2 b", "ZREMRANGEBYSCORE k 1 1", "ZADD k 1 a 2 b",
            "ZPOPMIN k", "ZADD k 1 a 2 b", "ZPOPMAX k"};
        for (int i = 0; i < rows.length; i += 2) {
            Scene scene = says(sentence, rows[i], "PEXPIRE k 700", "RPUSH l x y", "SADD s x y");
            scene.ask(0, rows[i + 1]);
            scene.due(rows[i + 1], scene.ask(0, "PTTL k"), ":700|").due("keys with a time", scene.steward.total(2), 1);
        }
        String[] gone = {"SET k 5", "SET k 6", "SET k 5", "SET k 6 XX GET", "SET k 5", "GETSET k 6", "SET k 5",
            "MSET m 1 k 6", "SET k 5", "PERSIST k",
            "SADD k a", "SUNIONSTORE k k", "SADD k a", "SINTERSTORE k s", "SADD k a", "SDIFFSTORE k s none",
            "RPUSH k a", "SET k 6", "RPUSH k a", "SUNIONSTORE k s",
            "SET k 5", "RENAME l k"};
        for (int i = 0; i < gone.length; i += 2) {
            Scene scene = says(sentence, gone[i], "PEXPIRE k 700", "RPUSH l x y", "SADD s x y");
            scene.ask(0, gone[i + 1]);
            scene.due(gone[i + 1], scene.ask(0, "PTTL k"), ":-1|").due("keys with a time", scene.steward.total(2), 0);
        }
        for (String line : new String[] {"DEL k", "GETDEL k", "FLUSHALL", "EXPIRE k -1"}) {
            says(sentence, "SET k 5", "PEXPIRE k 700", line, "SET k 6").answers("PTTL k", ":-1|");
        }
    }

    public static void main(String[] args) {
        names();
        unknownNames();
        numbersOfArgs();
        optionalArgs();
        aheadOfMode();
        moreArgs();
        integers();
        orderOfRefusals();
        wrongSorts();
        wordsThatAreNoKeys();
        sameWords();
        emptyKeys();
        absentKeys();
        rising();
        timesThatStay();
        CHECK.end();
    }
}
