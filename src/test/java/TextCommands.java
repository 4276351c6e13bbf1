/** Commands about texts and keys, with each of their refusals. */
public final class TextCommands {
    private static final Check CHECK = new Check();

    private static void getAndSet() {
        CHECK.script("GET k", "$-1|", "SET k v", "+OK|", "get k", "$1|v|", "GET", "-ERR arity|", "GET k k", "-ERR arity|",
                "RPUSH l a", ":1|", "GET l", "-WRONGTYPE|", "SET l v", "+OK|", "TYPE l", "+string|",
                "SET k", "-ERR arity|", "SET k w NX", "$-1|", "SET k w XX", "+OK|", "SET n w XX", "$-1|", "EXISTS n", ":0|",
                "SET n w nx", "+OK|", "SET n x GET", "$1|w|", "SET n y NX GET", "$1|x|", "SET m y XX GET", "$-1|",
                "SET m y GET", "$-1|", "GET m", "$1|y|", "SET k v GET XX", "$1|w|",
                "SET k v NX XX", "-ERR syntax|", "SET k v NX NX", "-ERR syntax|", "SET k v GET GET", "-ERR syntax|",
                "SET k v EX", "-ERR syntax|", "SET k v EX 1 PX 1", "-ERR syntax|", "SET k v KEEPTTL EX 1", "-ERR syntax|",
                "SET k v EX 1 EX 1", "-ERR syntax|", "SET k v no", "-ERR syntax|", "SET k v EX x no", "-ERR syntax|",
                "SET k v EX x", "-ERR integer|", "SET k v EX NX", "-ERR integer|", "SET k v EX 0", "-ERR time|",
                "SET k v PX -1", "-ERR time|", "SET k v EXAT 0", "-ERR time|", "SET k v PXAT 0", "-ERR time|",
                "SET k v PX 9007199254740991", "+OK|", "SET k v PX 9007199254740992", "-ERR time|",
                "SET k v EX 9007199254741", "-ERR time|", "SET k v EX 9007199254740", "+OK|",
                "SET k v EX 9223372036854775807", "-ERR time|", "SET k v EX 9223372036854775808", "-ERR integer|");
        CHECK.script("SADD s a", ":1|", "SET s v GET", "-WRONGTYPE|", "SET s v NX GET", "-WRONGTYPE|",
                "SET s v NX", "$-1|", "TYPE s", "+set|", "SET s v XX", "+OK|", "TYPE s", "+string|",
                "SET s v GET KEEPTTL NX XX", "-ERR syntax|");
    }

    private static void setWithTimes() {
        Client c = CHECK.script("SET k v EX 10", "+OK|", "PTTL k", ":10000|", "SET k w KEEPTTL", "+OK|", "PTTL k", ":10000|",
                "SET k w", "+OK|", "PTTL k", ":-1|", "SET k v PX 5 NX", "$-1|", "PTTL k", ":-1|",
                "SET k v px 5 get", "$1|w|", "PTTL k", ":5|", "SET n v KEEPTTL", "+OK|", "PTTL n", ":-1|",
                "SETEX e 3 v", "+OK|", "PTTL e", ":3000|", "PSETEX e 3 w", "+OK|", "PTTL e", ":3|", "GET e", "$1|w|");
        c.steward.pass(1000);
        CHECK.script(c, "EXISTS k e", ":0|", "SET k v EXAT 1", "+OK|", "EXISTS k", ":0|", "SET k v", "+OK|",
                "SET k w PXAT 1000 GET", "$1|v|", "EXISTS k", ":0|", "SET k v PXAT 1001", "+OK|", "PTTL k", ":1|",
                "SET k v EXAT 2", "+OK|", "PTTL k", ":1000|", "SETNX k w", ":0|", "PTTL k", ":1000|",
                "GETSET k w", "$1|v|", "PTTL k", ":-1|", "SETEX k 9007199254740 v", "-ERR time|",
                "SETEX k 9007199254739 v", "+OK|", "EXPIRE k 9007199254740", "-ERR time|",
                "SETEX k x v", "-ERR integer|", "SETEX k 0 v", "-ERR time|", "PSETEX k -1 v", "-ERR time|",
                "SETEX k 1", "-ERR arity|", "PSETEX k 1 v w", "-ERR arity|", "PEXPIRE k 5", ":1|", "MSET k 1 j 2", "+OK|",
                "PTTL k", ":-1|", "PEXPIRE k 5", ":1|", "APPEND k 2", ":2|", "INCR k", ":13|", "SETRANGE k 1 9", ":2|",
                "SETBIT k 0 0", ":0|", "PTTL k", ":5|");
        CHECK.script("RPUSH l a", ":1|", "PEXPIRE l 5", ":1|", "SET l v KEEPTTL", "+OK|", "PTTL l", ":5|");
    }

    private static void others() {
        CHECK.script("GETDEL k", "$-1|", "SET k v", "+OK|", "GETDEL k", "$1|v|", "EXISTS k", ":0|", "LPUSH l a", ":1|",
                "GETDEL l", "-WRONGTYPE|", "GETDEL", "-ERR arity|", "GETSET l v", "-WRONGTYPE|", "GETSET k v", "$-1|",
                "GETSET k w", "$1|v|", "GETSET k", "-ERR arity|", "SETNX l v", ":0|", "SETNX n v", ":1|", "GET n", "$1|v|",
                "SETNX n", "-ERR arity|", "MGET k l x n", "*4|$1|w|$-1|$-1|$1|v|", "MGET", "-ERR arity|",
                "MSET a 1 b", "-ERR arity|", "MSET", "-ERR arity|", "MSET a 1 l 2 a 3", "+OK|", "MGET a l", "*2|$1|3|$1|2|",
                "MSETNX z 1 a 2", ":0|", "EXISTS z", ":0|", "MSETNX z 1 y 2 z 3", ":1|", "MGET z y", "*2|$1|3|$1|2|",
                "MSETNX z 1 y", "-ERR arity|", "STRLEN a", ":1|", "STRLEN none", ":0|", "STRLEN", "-ERR arity|",
                "SADD s m", ":1|", "STRLEN s", "-WRONGTYPE|", "APPEND s v", "-WRONGTYPE|", "APPEND s", "-ERR arity|",
                "APPEND new abc", ":3|", "APPEND new def", ":6|", "GET new", "$6|abcdef|");
        Client c = new Client();
        c.send(0, Client.star("APPEND", "e", ""));
        CHECK.due("an empty text", Client.shown(c.taken(0)), ":0|");
        CHECK.script(c, "EXISTS e", ":1|", "GET e", "$0||");
    }

    private static void parts() {
        CHECK.script("SET k abcdef", "+OK|", "GETRANGE k 0 2", "$3|abc|", "GETRANGE k -2 -1", "$2|ef|",
                "GETRANGE k 2 100", "$4|cdef|", "GETRANGE k -100 1", "$2|ab|", "GETRANGE k 3 2", "$0||", "GETRANGE k 6 9", "$0||",
                "GETRANGE k 0 -7", "$0||", "GETRANGE k -100 -7", "$0||", "GETRANGE none 0 -1", "$0||",
                "GETRANGE k -9223372036854775808 9223372036854775807", "$6|abcdef|",
                "GETRANGE k x y", "-ERR integer|", "GETRANGE k 0 01", "-ERR integer|", "GETRANGE k 0", "-ERR arity|",
                "RPUSH l a", ":1|", "GETRANGE l 0 1", "-WRONGTYPE|", "GETRANGE l 0 x", "-ERR integer|",
                "SETRANGE k 2 XY", ":6|", "GET k", "$6|abXYef|", "SETRANGE k 8 Z", ":9|", "GET k", "$9|abXYef<0><0>Z|",
                "SETRANGE k -1 v", "-ERR range|", "SETRANGE k x v", "-ERR integer|", "SETRANGE l 0 v", "-WRONGTYPE|",
                "SETRANGE l -1 v", "-ERR range|", "SETRANGE k 0", "-ERR arity|", "SETRANGE n 2 v", ":3|", "GET n", "$3|<0><0>v|",
                "SETRANGE k 16383 v", ":16384|", "SETRANGE k 16384 v", "-ERR size|", "SETRANGE k 16383 vw", "-ERR size|",
                "SETRANGE k 9223372036854775807 v", "-ERR size|", "SETRANGE none 16384 v", "-ERR size|", "EXISTS none", ":0|",
                "APPEND k v", "-ERR size|", "STRLEN k", ":16384|", "SET k v", "+OK|", "SETRANGE k 3 w", ":4|",
                "GET k", "$4|v<0><0>w|", "DEL k", ":1|", "SETRANGE k 5 x", ":6|", "GET k", "$6|<0><0><0><0><0>x|");
        Client c = new Client();
        c.send(0, Client.star("SETRANGE", "k", "99999", "") + Client.star("SETRANGE", "k", "-1", ""));
        CHECK.due("nothing to set", Client.shown(c.taken(0)), ":0|-ERR range|");
        CHECK.script(c, "EXISTS k", ":0|", "SET k abc", "+OK|");
        c.send(0, Client.star("SETRANGE", "k", "1", ""));
        CHECK.due("nothing to set", Client.shown(c.taken(0)), ":3|");
    }

    private static void numbers() {
        CHECK.script("INCR n", ":1|", "INCR n", ":2|", "DECR n", ":1|", "INCRBY n 10", ":11|", "DECRBY n 20", ":-9|",
                "GET n", "$2|-9|", "INCRBY n -1", ":-10|", "INCRBY n x", "-ERR integer|", "INCRBY n", "-ERR arity|",
                "INCR n n", "-ERR arity|", "SET n 9223372036854775807", "+OK|", "INCR n", "-ERR overflow|",
                "GET n", "$19|9223372036854775807|", "INCRBY n 9223372036854775807", "-ERR overflow|", "INCRBY n 0",
                ":9223372036854775807|", "DECRBY n 9223372036854775807", ":0|",
                "DECRBY n -9223372036854775808", "-ERR overflow|", "SET n -1", "+OK|",
                "DECRBY n -9223372036854775808", ":9223372036854775807|", "SET n -9223372036854775808", "+OK|",
                "DECR n", "-ERR overflow|", "DECRBY n 0", ":-9223372036854775808|", "GET n", "$20|-9223372036854775808|",
                "DECRBY m -9223372036854775808", "-ERR overflow|", "EXISTS m", ":0|",
                "SET n 01", "+OK|", "INCR n", "-ERR integer|", "SET n -0", "+OK|", "INCR n", "-ERR integer|",
                "SET n 9223372036854775808", "+OK|", "DECR n", "-ERR integer|", "SET n +1", "+OK|", "INCR n", "-ERR integer|",
                "SET n 1x", "+OK|", "INCR n", "-ERR integer|", "SET n -", "+OK|", "DECR n", "-ERR integer|",
                "HSET h f 1", ":1|", "INCR h", "-WRONGTYPE|", "DECRBY h 1", "-WRONGTYPE|", "DECRBY h x", "-ERR integer|");
    }

    private static void bits() {
        CHECK.script("SETBIT k 7 1", ":0|", "GET k", "$1|<1>|", "SETBIT k 7 1", ":1|", "SETBIT k 0 1", ":0|", "GET k", "$1|<129>|",
                "SETBIT k 7 0", ":1|", "GET k", "$1|<128>|", "SETBIT k 17 1", ":0|", "GET k", "$3|<128><0>@|",
                "GETBIT k 17", ":1|", "GETBIT k 16", ":0|", "GETBIT k 131071", ":0|", "GETBIT none 0", ":0|",
                "GETBIT k 131072", "-ERR range|", "GETBIT k -1", "-ERR range|", "GETBIT k x", "-ERR integer|",
                "SETBIT k 131072 1", "-ERR range|", "SETBIT k -1 1", "-ERR range|", "SETBIT k 0 2", "-ERR range|",
                "SETBIT k 0 -1", "-ERR range|", "SETBIT k x 2", "-ERR integer|", "SETBIT k 0", "-ERR arity|",
                "GETBIT k", "-ERR arity|", "SETBIT n 131071 1", ":0|", "STRLEN n", ":16384|", "SETBIT e 9 0", ":0|",
                "GET e", "$2|<0><0>|", "RPUSH l a", ":1|", "SETBIT l 0 1", "-WRONGTYPE|", "GETBIT l 0", "-WRONGTYPE|",
                "SETBIT l 0 5", "-ERR range|");
        CHECK.script("SET k abc", "+OK|", "BITCOUNT k", ":10|", "BITCOUNT k 0 0", ":3|", "BITCOUNT k -1 -1", ":4|",
                "BITCOUNT k 1 100", ":7|", "BITCOUNT k 2 1", ":0|", "BITCOUNT none", ":0|", "BITCOUNT none 0 -1", ":0|",
                "BITCOUNT k 0", "-ERR arity|", "BITCOUNT", "-ERR arity|", "BITCOUNT k 0 1 2", "-ERR arity|",
                "BITCOUNT k x 1", "-ERR integer|", "SADD s a", ":1|", "BITCOUNT s", "-WRONGTYPE|", "BITCOUNT s 0 x", "-ERR integer|");
    }

    private static void keys() {
        CHECK.script("MSET a 1 b 2 c 3", "+OK|", "DEL a x b a", ":2|", "DEL", "-ERR arity|", "EXISTS c c x", ":2|",
                "EXISTS", "-ERR arity|", "DBSIZE", ":1|", "DBSIZE x", "-ERR arity|", "TYPE x", "+none|", "TYPE c", "+string|",
                "RPUSH l a", ":1|", "TYPE l", "+list|", "HSET h f v", ":1|", "TYPE h", "+hash|", "SADD s a", ":1|",
                "TYPE s", "+set|", "ZADD z 1 a", ":1|", "TYPE z", "+zset|", "TYPE", "-ERR arity|", "DBSIZE", ":5|",
                "FLUSHALL", "+OK|", "DBSIZE", ":0|", "FLUSHALL x", "-ERR arity|");
        CHECK.script("RENAME a b", "-ERR missing|", "RENAMENX a b", "-ERR missing|", "RENAME a a", "-ERR missing|",
                "RENAMENX a a", "-ERR missing|", "RPUSH a 1 2", ":2|", "PEXPIRE a 50", ":1|", "SET b v", "+OK|",
                "RENAMENX a b", ":0|", "RENAME a b", "+OK|", "EXISTS a", ":0|", "LRANGE b 0 -1", "*2|$1|1|$1|2|",
                "PTTL b", ":50|", "RENAME b b", "+OK|", "RENAMENX b b", ":0|", "RENAMENX b c", ":1|", "PTTL c", ":50|",
                "DBSIZE", ":1|", "SET d v EX 5", "+OK|", "PERSIST c", ":1|", "RENAME c d", "+OK|", "PTTL d", ":-1|",
                "RENAME d", "-ERR arity|", "RENAMENX d e f", "-ERR arity|");
        Client c = new Client();
        c.ask(0, "SET short v");
        c.ask(0, "RENAME short muchlonger");
        CHECK.due("memory of a renamed key", c.steward.total(1), 64 + 10 + 1);
    }

    private static void patterns() {
        Client c = CHECK.script("MSET a 1 ab 2 abc 3 b 4 b-c 5 [x 6 \\ 7 ^ 8", "+OK|",
                "KEYS *", "*8|$2|[x|$1|\\|$1|^|$1|a|$2|ab|$3|abc|$1|b|$3|b-c|", "KEYS ?", "*4|$1|\\|$1|^|$1|a|$1|b|",
                "KEYS a*", "*3|$1|a|$2|ab|$3|abc|", "KEYS *c", "*2|$3|abc|$3|b-c|", "KEYS [ab]", "*2|$1|a|$1|b|",
                "KEYS [^ab]", "*2|$1|\\|$1|^|", "KEYS [a-c]", "*2|$1|a|$1|b|", "KEYS [c-a]", "*0|", "KEYS [a", "*1|$1|a|",
                "KEYS []", "*0|", "KEYS [^]", "*4|$1|\\|$1|^|$1|a|$1|b|", "KEYS []a", "*0|", "KEYS b[a-]c", "*1|$3|b-c|",
                "KEYS b[-]c", "*1|$3|b-c|", "KEYS b[-a]c", "*1|$3|b-c|", "KEYS b[+--]c", "*1|$3|b-c|", "KEYS b[\\-]c", "*1|$3|b-c|",
                "KEYS \\[x", "*1|$2|[x|", "KEYS \\", "*1|$1|\\|", "KEYS \\\\", "*1|$1|\\|", "KEYS \\a", "*1|$1|a|",
                "KEYS [\\a-\\b]", "*2|$1|a|$1|b|", "KEYS [\\", "*1|$1|\\|", "KEYS [x^]", "*1|$1|^|", "KEYS [[]x", "*1|$2|[x|",
                "KEYS a*b*c", "*1|$3|abc|", "KEYS **", "*8|$2|[x|$1|\\|$1|^|$1|a|$2|ab|$3|abc|$1|b|$3|b-c|",
                "KEYS x", "*0|", "KEYS", "-ERR arity|", "KEYS a b", "-ERR arity|", "KEYS [b-", "*1|$1|b|");
        c.send(0, Client.star("SET", "\u00ff", "1") + Client.star("SET", "", "1") + Client.star("KEYS", "[\u0080-\u00ff]")
                + Client.star("KEYS", "") + Client.star("KEYS", "*\u00ff"));
        CHECK.due("bytes without sign", Client.shown(c.taken(0)), "+OK|+OK|*1|$1|<255>|*1|$0||*1|$1|<255>|");
        c.ask(0, "SET ]-x 1");
        CHECK.script(c, "KEYS []-x]", "*0|", "KEYS [\\]]-x", "*1|$3|]-x|");
    }

    private static void times() {
        Client c = CHECK.script("EXPIRE k 5", ":0|", "EXPIRE k x", "-ERR integer|", "EXPIRE k 9007199254741", "-ERR time|",
                "EXPIRE k -9007199254741", "-ERR time|", "EXPIRE k -9007199254740", ":0|",
                "PEXPIREAT k 9007199254740992", "-ERR time|", "PEXPIREAT k -9007199254740992", "-ERR time|",
                "PEXPIREAT k -9007199254740991", ":0|", "EXPIRE k", "-ERR arity|", "SET k v", "+OK|", "TTL k", ":-1|",
                "PTTL k", ":-1|", "TTL none", ":-2|", "PTTL none", ":-2|", "TTL", "-ERR arity|", "EXPIRE k 5", ":1|",
                "TTL k", ":5|", "PTTL k", ":5000|", "PEXPIRE k 1499", ":1|", "TTL k", ":1|", "PEXPIRE k 1500", ":1|",
                "TTL k", ":2|", "PEXPIRE k 499", ":1|", "TTL k", ":0|", "PERSIST k", ":1|", "PERSIST k", ":0|",
                "PERSIST none", ":0|", "PERSIST", "-ERR arity|", "PEXPIRE k 0", ":1|", "EXISTS k", ":0|", "SET k v", "+OK|",
                "EXPIRE k -1", ":1|", "EXISTS k", ":0|", "SET k v", "+OK|", "EXPIREAT k 0", ":1|", "EXISTS k", ":0|",
                "SET k v", "+OK|", "PEXPIREAT k 9007199254740991", ":1|", "PTTL k", ":9007199254740991|",
                "SADD s a", ":1|", "EXPIREAT s 9", ":1|", "PTTL s", ":9000|", "PEXPIREAT s 70", ":1|", "PTTL s", ":70|");
        c.steward.pass(69);
        CHECK.script(c, "PTTL s", ":1|", "PEXPIREAT s 69", ":1|", "EXISTS s", ":0|", "PEXPIRE k 9007199254740991", "-ERR time|",
                "TIME", "*2|$1|0|$2|69|", "TIME x", "-ERR arity|");
        c.steward.pass(5431);
        CHECK.script(c, "TIME", "*2|$1|5|$3|500|");
    }

    /** Long texts that come, shrink and go stay apart from one another. */
    private static void longTexts() {
        Client c = new Client();
        String[] texts = new String[6];
        for (int turn = 0; turn < 60; turn++) {
            int i = turn * 7 % 6;
            int length = 200 + turn * 977 % 9000;
            texts[i] = turn % 5 == 4 ? "v" + turn : Check.times("" + (char) ('a' + turn % 26), length);
            if (turn % 4 == 3) {
                c.ask(0, "DEL k" + i);
            }
            c.send(0, Client.star("SET", "k" + i, texts[i]));
            c.taken(0);
            if (turn % 11 == 10) {
                c.ask(0, "RPUSH l a");
                c.ask(0, "RENAME k" + i + " l");
                c.ask(0, "RENAME l k" + i);
            }
            for (int j = 0; j < 6; j++) {
                if (texts[j] != null) {
                    CHECK.due("text " + j + " in turn " + turn, c.ask(0, "GET k" + j), "$" + texts[j].length() + "\r\n" + texts[j] + "\r\n");
                }
            }
        }
    }

    private static void manyKeys() {
        Client c = new Client();
        StringBuilder all = new StringBuilder();
        for (int i = 0; i < 800; i++) {
            int number = 1000 + i * 357 % 800;
            c.ask(0, "SET " + number + " " + i);
            all.append("$4|" + (1000 + i) + "|");
        }
        CHECK.script(c, "DBSIZE", ":800|", "KEYS *", "*800|" + all, "GET 1357", "$1|1|", "GET 1356", "$3|" + indexOf(356) + "|");
        CHECK.due("memory", c.steward.total(1), 800 * 68 + 10 + 90 * 2 + 700 * 3);
        for (int i = 0; i < 800; i += 2) {
            c.ask(0, "DEL " + (1000 + i));
        }
        CHECK.script(c, "DBSIZE", ":400|", "EXISTS 1000 1001 1799", ":2|", "GET 1357", "$1|1|");
        c.steward.crash();
        c.steward.restart();
        c.steward.open(0);
        CHECK.script(c, "DBSIZE", ":400|", "EXISTS 1000 1001 1799", ":2|", "GET 1357", "$1|1|", "FLUSHALL", "+OK|", "DBSIZE", ":0|");
        CHECK.due("memory", c.steward.total(1), 0);
    }

    private static int indexOf(int number) {
        int i = 0;
        while (i * 357 % 800 != number) {
            i++;
        }
        return i;
    }

    public static void main(String[] args) {
        longTexts();
        manyKeys();
        getAndSet();
        setWithTimes();
        others();
        parts();
        numbers();
        bits();
        keys();
        patterns();
        times();
        CHECK.end();
    }
}
