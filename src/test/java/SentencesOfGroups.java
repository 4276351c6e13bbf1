/** The commands about lists, hashes and sets, sentence by sentence. */
public final class SentencesOfGroups {
    private static final Check CHECK = new Check();

    private static Scene says(String sentence, String... setup) {
        return new Scene(CHECK, sentence, setup);
    }

    private static void pushes() {
        String sentence = "LPUSH k v ..., RPUSH (one behind the other to this end)";
        says(sentence).changes("LPUSH l a", ":1|").changes("LPUSH l b c", ":3|").answers("LRANGE l 0 -1",
                "*3|$1|c|$1|b|$1|a|").changes("RPUSH l d e", ":5|")
                .answers("LRANGE l 0 -1", "*5|$1|c|$1|b|$1|a|$1|d|$1|e|").changes("RPUSH l ''", ":6|").totals(1,
                65 + 6 * 16 + 5, 0);
        String many = " a".repeat(1022);
        says(sentence).answers("RPUSH l" + many, ":1022|").answers("LPUSH l b" + " c".repeat(100), ":1123|")
                .answers("LINDEX l 100", "$1|b|").answers("LINDEX l 101", "$1|a|");
    }

    private static void pushesIfThere() {
        String sentence = "LPUSHX, RPUSHX (only if there): the length (0)";
        says(sentence, "RPUSH l a").changes("LPUSHX l b c", ":3|").changes("RPUSHX l d e", ":5|")
                .answers("LRANGE l 0 -1", "*5|$1|c|$1|b|$1|a|$1|d|$1|e|")
                .keepsAll("LPUSHX none a", ":0|", "RPUSHX none a b", ":0|");
    }

    private static void pops() {
        String sentence = "LPOP k [n], RPOP k [n]: without n the word or NIL, with n (below 0: -ERR range) a row of "
                + "at most n, NILROW without key";
        says(sentence, "RPUSH l a b c d e f g").changes("LPOP l", "$1|a|").changes("RPOP l", "$1|g|")
                .changes("LPOP l 1", "*1|$1|b|").changes("RPOP l 2", "*2|$1|f|$1|e|")
                .keepsAll("LPOP l 0", "*0|", "RPOP l 0", "*0|", "LPOP l -1", "-ERR range|", "RPOP l -1", "-ERR range|",
                "LPOP l -9223372036854775808", "-ERR range|")
                .changes("LPOP l 9223372036854775807", "*2|$1|c|$1|d|").keepsAll("LPOP l", "$-1|", "RPOP l", "$-1|",
                "LPOP l 0", "*-1|", "RPOP l 5", "*-1|", "LPOP l -1", "-ERR range|",
                "RPOP l -1", "-ERR range|");
        says(sentence, "RPUSH l a b").changes("RPOP l 4294967297", "*2|$1|b|$1|a|");
        says(sentence, "RPUSH l a b").changes("RPOP l 2", "*2|$1|b|$1|a|");
        says(sentence, "RPUSH l ''").changes("RPOP l", "$0||");
    }

    private static void llen() {
        says("LLEN", "RPUSH l a b").keepsAll("LLEN l", ":2|", "LLEN none", ":0|");
    }

    private static void lrange() {
        says("LRANGE k i j", "RPUSH l a b c d e").keepsAll("LRANGE l 0 -1", "*5|$1|a|$1|b|$1|c|$1|d|$1|e|",
                "LRANGE l 0 0", "*1|$1|a|", "LRANGE l 4 4", "*1|$1|e|", "LRANGE l 5 5", "*0|",
                "LRANGE l 4 5", "*1|$1|e|", "LRANGE l -1 -1", "*1|$1|e|", "LRANGE l -5 -5", "*1|$1|a|",
                "LRANGE l -6 -6", "*0|", "LRANGE l -6 0", "*1|$1|a|", "LRANGE l 0 -6", "*0|", "LRANGE l 3 2", "*0|",
                "LRANGE l 3 3", "*1|$1|d|", "LRANGE l -9223372036854775808 9223372036854775807",
                "*5|$1|a|$1|b|$1|c|$1|d|$1|e|", "LRANGE l 4294967296 4294967300", "*0|", "LRANGE none 0 -1", "*0|");
    }

    private static void lindex() {
        says("LINDEX k i", "RPUSH l a b c").keepsAll("LINDEX l 0", "$1|a|", "LINDEX l 2", "$1|c|", "LINDEX l 3", "$-1|",
                "LINDEX l -1", "$1|c|", "LINDEX l -3", "$1|a|", "LINDEX l -4", "$-1|",
                "LINDEX l 9223372036854775807", "$-1|", "LINDEX l -9223372036854775808", "$-1|", "LINDEX l 4294967296",
                "$-1|", "LINDEX none 0", "$-1|");
    }

    private static void lset() {
        String sentence = "LSET k i v: +OK; without key -ERR missing, without that place -ERR range";
        says(sentence, "RPUSH l a b c").changes("LSET l 0 A", "+OK|").changes("LSET l 2 CC", "+OK|")
                .changes("LSET l -2 ''", "+OK|").changes("LSET l -3 A", "+OK|")
                .answers("LRANGE l 0 -1", "*3|$1|A|$0||$2|CC|").totals(1, 65 + 48 + 3, 0)
                .keepsAll("LSET l 3 v", "-ERR range|", "LSET l -4 v", "-ERR range|", "LSET l 9223372036854775807 v",
                "-ERR range|", "LSET l 4294967296 v", "-ERR range|",
                        "LSET none 0 v", "-ERR missing|", "LSET none 9 v", "-ERR missing|", "LSET none -1 v",
                        "-ERR missing|");
    }

    private static void linsert() {
        String sentence = "LINSERT k BEFORE | AFTER m v (the first m from the left): the length, -1 without m, 0 "
                + "without key";
        says(sentence, "RPUSH l a b a").changes("LINSERT l BEFORE a x", ":4|").changes("LINSERT l AFTER a y", ":5|")
                .answers("LRANGE l 0 -1", "*5|$1|x|$1|a|$1|y|$1|b|$1|a|")
                .changes("LINSERT l after b z", ":6|").changes("LINSERT l Before b w", ":7|").answers("LRANGE l 0 -1",
                "*7|$1|x|$1|a|$1|y|$1|w|$1|b|$1|z|$1|a|")
                .keepsAll("LINSERT l BEFORE none v", ":-1|", "LINSERT l AFTER none v", ":-1|",
                "LINSERT none BEFORE a v", ":0|", "LINSERT none AFTER a v", ":0|", "LINSERT l BESIDE a v",
                "-ERR syntax|",
                        "LINSERT none BESIDE a v", "-ERR syntax|", "LINSERT l '' a v", "-ERR syntax|",
                        "LINSERT l BEFOREx a v", "-ERR syntax|");
        says(sentence, "RPUSH l a").changes("LINSERT l AFTER a b", ":2|").changes("LINSERT l AFTER b c", ":3|")
                .answers("LRANGE l 0 -1", "*3|$1|a|$1|b|$1|c|");
    }

    private static void lrem() {
        String sentence = "LREM k n v: n above 0 the first n, below 0 the last ones, 0 all that are v: how many";
        String[] rows = {"1", ":1|", "*6|$1|x|$1|a|$1|y|$1|a|$1|a|$1|z|", "2", ":2|", "*5|$1|x|$1|y|$1|a|$1|a|$1|z|",
            "4", ":4|", "*3|$1|x|$1|y|$1|z|", "9", ":4|", "*3|$1|x|$1|y|$1|z|",
            "-1", ":1|", "*6|$1|a|$1|x|$1|a|$1|y|$1|a|$1|z|", "-2", ":2|", "*5|$1|a|$1|x|$1|a|$1|y|$1|z|", "-3", ":3|",
            "*4|$1|a|$1|x|$1|y|$1|z|", "-9", ":4|", "*3|$1|x|$1|y|$1|z|",
            "0", ":4|", "*3|$1|x|$1|y|$1|z|", "9223372036854775807", ":4|", "*3|$1|x|$1|y|$1|z|",
            "-9223372036854775808", ":4|", "*3|$1|x|$1|y|$1|z|"};
        for (int i = 0; i < rows.length; i += 3) {
            says(sentence, "RPUSH l a x a y a a z").changes("LREM l " + rows[i] + " a", rows[i + 1])
                    .answers("LRANGE l 0 -1", rows[i + 2]).keeps("LREM l " + rows[i] + " none", ":0|")
                    .keeps("LREM none " + rows[i] + " a", ":0|");
        }
    }

    /** Words of many lengths, more of them than there are ways to know them by. */
    private static void manyWords() {
        String sentence = "SADD k m ..., SREM k m ...: how many";
        Scene set = says(sentence);
        Scene list = says("LREM k n v: n above 0 the first n, below 0 the last ones, 0 all that are v: how many");
        for (int i = 0; i < 1900; i++) {
            set.answers("SADD s " + Integer.toString(i, 7), ":1|");
            list.ask(0, "RPUSH l " + Integer.toString(i, 7));
        }
        set.answers("SCARD s", ":1900|");
        for (int i = 0; i < 1900; i++) {
            String word = Integer.toString(i, 7);
            set.answers("SISMEMBER s " + word, ":1|").answers("SADD s " + word, ":0|");
            list.answers("LREM l 0 " + word, ":1|").answers("LREM l 0 " + word, ":0|");
        }
        set.totals(1, 65 + 24 * 1900 + 7 + 2 * 42 + 3 * 294 + 4 * 1557, 0);
        list.totals(0, 0, 0);
    }

    private static void ltrim() {
        String sentence = "LTRIM k i j: +OK";
        String all = "*4|$1|a|$1|b|$1|c|$1|d|";
        String[] rows = {"0 2", "*3|$1|a|$1|b|$1|c|", "1 3", "*3|$1|b|$1|c|$1|d|", "1 -2", "*2|$1|b|$1|c|", "-3 -2",
            "*2|$1|b|$1|c|", "3 9", "*1|$1|d|", "-9 0", "*1|$1|a|", "0 0", "*1|$1|a|",
            "4 9", "*0|", "2 1", "*0|", "0 -5", "*0|", "-9 -5", "*0|"};
        for (int i = 0; i < rows.length; i += 2) {
            says(sentence, "RPUSH l a b c d").changes("LTRIM l " + rows[i], "+OK|").answers("LRANGE l 0 -1",
                    rows[i + 1]);
        }
        says(sentence, "RPUSH l a b c d").keepsAll("LTRIM l 0 -1", "+OK|", "LTRIM l 0 3", "+OK|", "LTRIM l 0 9", "+OK|",
                "LTRIM l -4 -1", "+OK|", "LTRIM l -9223372036854775808 9223372036854775807", "+OK|",
                "LTRIM none 1 0", "+OK|").answers("LRANGE l 0 -1", all);
    }

    private static void lmove() {
        String sentence = "LMOVE k k LEFT | RIGHT LEFT | RIGHT: from there to there: the word or NIL";
        String[] rows = {"LEFT LEFT", "$1|a|", "*1|$1|b|", "*3|$1|a|$1|x|$1|y|", "LEFT RIGHT", "$1|a|", "*1|$1|b|",
            "*3|$1|x|$1|y|$1|a|",
            "RIGHT LEFT", "$1|b|", "*1|$1|a|", "*3|$1|b|$1|x|$1|y|", "RIGHT RIGHT", "$1|b|", "*1|$1|a|",
            "*3|$1|x|$1|y|$1|b|", "right Left", "$1|b|", "*1|$1|a|", "*3|$1|b|$1|x|$1|y|"};
        for (int i = 0; i < rows.length; i += 4) {
            says(sentence, "RPUSH l a b", "RPUSH m x y").changes("LMOVE l m " + rows[i], rows[i + 1])
                    .holds("LRANGE l 0 -1", rows[i + 2], "LRANGE m 0 -1", rows[i + 3])
                    .keeps("LMOVE none m " + rows[i], "$-1|").keeps("LMOVE none none2 " + rows[i], "$-1|")
                    .keeps("LMOVE none none " + rows[i], "$-1|");
        }
        says(sentence, "RPUSH l a b c").changes("LMOVE l l LEFT RIGHT", "$1|a|").answers("LRANGE l 0 -1",
                "*3|$1|b|$1|c|$1|a|").changes("LMOVE l l RIGHT RIGHT", "$1|a|")
                .changes("LMOVE l l LEFT LEFT", "$1|b|").answers("LRANGE l 0 -1", "*3|$1|b|$1|c|$1|a|")
                .changes("LMOVE l l RIGHT LEFT", "$1|a|").answers("LRANGE l 0 -1", "*3|$1|a|$1|b|$1|c|");
        says(sentence, "RPUSH l a b").changes("LMOVE l new LEFT RIGHT", "$1|a|").changes("LMOVE l new LEFT RIGHT",
                "$1|b|").holds("EXISTS l", ":0|", "LRANGE new 0 -1", "*2|$1|a|$1|b|");
        says(sentence, "RPUSH l a", "PEXPIRE l 9").changes("LMOVE l l LEFT LEFT", "$1|a|").holds("LRANGE l 0 -1",
                "*1|$1|a|", "PTTL l", ":9|");
        says(sentence, "RPUSH l a").keepsAll("LMOVE l l UP LEFT", "-ERR syntax|", "LMOVE l l LEFT UP", "-ERR syntax|",
                "LMOVE l l '' LEFT", "-ERR syntax|", "LMOVE l l LEFT ''", "-ERR syntax|",
                "LMOVE none none UP DOWN", "-ERR syntax|", "LMOVE l l LEFTS RIGHT", "-ERR syntax|");
    }

    private static void rpoplpush() {
        says("RPOPLPUSH k k", "RPUSH l a b", "RPUSH m x").changes("RPOPLPUSH l m", "$1|b|").answers("LRANGE m 0 -1",
                "*2|$1|b|$1|x|").changes("RPOPLPUSH m m", "$1|x|")
                .answers("LRANGE m 0 -1", "*2|$1|x|$1|b|").changes("RPOPLPUSH l new", "$1|a|").holds("EXISTS l", ":0|",
                "LRANGE new 0 -1", "*1|$1|a|").keepsAll("RPOPLPUSH l m", "$-1|", "RPOPLPUSH l l", "$-1|");
    }

    private static void hset() {
        String sentence = "HSET k f v ...: new fields";
        says(sentence).changes("HSET h f 1", ":1|").changes("HSET h f 22", ":0|").changes("HSET h f 3 g 4 g 5 '' ''",
                ":2|").holds("HGETALL h", "*6|$0||$0||$1|f|$1|3|$1|g|$1|5|")
                .totals(1, 65 + 3 * 32 + 4, 0).changes("HSET h f 3", ":0|");
    }

    private static void hsetnx() {
        says("HSETNX k f v: 1 or 0").changes("HSETNX h f 1", ":1|").keeps("HSETNX h f 2", ":0|").changes("HSETNX h g 2",
                ":1|").answers("HGETALL h", "*4|$1|f|$1|1|$1|g|$1|2|");
    }

    private static void hget() {
        says("HGET k f; HMGET k f ...", "HSET h f 1 e ''").keepsAll("HGET h f", "$1|1|", "HGET h e", "$0||",
                "HGET h none", "$-1|", "HGET none f", "$-1|", "HMGET h f", "*1|$1|1|",
                "HMGET h f none e f", "*4|$1|1|$-1|$0||$1|1|", "HMGET none f g", "*2|$-1|$-1|");
    }

    private static void hdel() {
        says("HDEL k f ...: how many", "HSET h a 1 b 2 c 3").changes("HDEL h a none a", ":1|")
                .answers("HGETALL h", "*4|$1|b|$1|2|$1|c|$1|3|").keepsAll("HDEL h a", ":0|", "HDEL h none a", ":0|",
                "HDEL none a",
                ":0|").changes("HDEL h c b", ":2|").totals(0, 0, 0);
        says("HDEL k f ...: how many", "HSET h a 1 b 2 c 3 d 4").changes("HDEL h c a", ":2|")
                .answers("HGETALL h", "*4|$1|b|$1|2|$1|d|$1|4|").totals(1, 65 + 2 * 34, 0);
    }

    private static void hashReads() {
        says("HEXISTS k f: 1 or 0", "HSET h f ''").keepsAll("HEXISTS h f", ":1|", "HEXISTS h g", ":0|", "HEXISTS h ''",
                ":0|", "HEXISTS none f", ":0|");
        says("HLEN k", "HSET h f 1 g 2").keepsAll("HLEN h", ":2|", "HLEN none", ":0|");
        says("HSTRLEN k f", "HSET h f abc e ''").keepsAll("HSTRLEN h f", ":3|", "HSTRLEN h e", ":0|", "HSTRLEN h none",
                ":0|", "HSTRLEN none f", ":0|");
        says("HKEYS, HVALS, HGETALL k: fields rising, their values", "HSET h b 1 a 3 c 2 aa 4 B 5").keepsAll("HKEYS h",
                "*5|$1|B|$1|a|$2|aa|$1|b|$1|c|", "HVALS h", "*5|$1|5|$1|3|$1|4|$1|1|$1|2|",
                "HGETALL h", "*10|$1|B|$1|5|$1|a|$1|3|$2|aa|$1|4|$1|b|$1|1|$1|c|$1|2|", "HKEYS none", "*0|",
                "HVALS none", "*0|", "HGETALL none", "*0|");
    }

    private static void manyFields() {
        Scene scene = says("HKEYS, HVALS, HGETALL k: fields rising, their values");
        StringBuilder all = new StringBuilder("*1200|");
        for (int i = 0; i < 600; i++) {
            int number = i * 247 % 600;
            scene.answers("HSET h " + (1000 + number) + " " + (2000 + number), ":1|");
            all.append("$4|" + (1000 + i) + "|$4|" + (2000 + i) + "|");
        }
        scene.answers("HGETALL h", all.toString()).answers("HLEN h", ":600|").totals(1, 65 + 600 * 40, 0);
    }

    private static void hincrby() {
        String sentence = "HINCRBY k f i (as INCRBY)";
        says(sentence).changes("HINCRBY h f 0", ":0|").changes("HINCRBY h f 10", ":10|").changes("HINCRBY h f -11",
                ":-1|").changes("HINCRBY h f 0", ":-1|").answers("HGETALL h", "*2|$1|f|$2|-1|")
                .totals(1, 65 + 32 + 3, 0);
        says(sentence, "HSET h m 9223372036854775807 l -9223372036854775808 e '' t x z 01").keepsAll("HINCRBY h m 1",
                "-ERR overflow|", "HINCRBY h l -1", "-ERR overflow|",
                "HINCRBY h m 9223372036854775807", "-ERR overflow|", "HINCRBY h l -9223372036854775808",
                "-ERR overflow|", "HINCRBY h e 1", "-ERR integer|", "HINCRBY h t 1", "-ERR integer|",
                "HINCRBY h z 1", "-ERR integer|").changes("HINCRBY h m -9223372036854775808", ":-1|")
                .changes("HINCRBY h l 9223372036854775807", ":-1|")
                .changes("HINCRBY h new -9223372036854775808", ":-9223372036854775808|");
    }

    private static void saddAndSrem() {
        String sentence = "SADD k m ..., SREM k m ...: how many";
        says(sentence).changes("SADD s b a b", ":2|").changes("SADD s a c", ":1|").keepsAll("SADD s a", ":0|",
                "SADD s c b a", ":0|").changes("SADD s ''", ":1|").answers("SMEMBERS s", "*4|$0||$1|a|$1|b|$1|c|")
                .totals(1, 65 + 4 * 24 + 3, 0).changes("SREM s a none a", ":1|").keepsAll("SREM s a", ":0|",
                "SREM none a", ":0|").changes("SREM s '' c b", ":3|").totals(0, 0, 0);
    }

    private static void setReads() {
        says("SISMEMBER k m: 1 or 0", "SADD s a").keepsAll("SISMEMBER s a", ":1|", "SISMEMBER s b", ":0|",
                "SISMEMBER s ''", ":0|", "SISMEMBER none a", ":0|");
        says("SMISMEMBER k m ...", "SADD s a").keepsAll("SMISMEMBER s a", "*1|:1|", "SMISMEMBER s b a a",
                "*3|:0|:1|:1|", "SMISMEMBER none a b", "*2|:0|:0|");
        says("SCARD k", "SADD s a b").keepsAll("SCARD s", ":2|", "SCARD none", ":0|");
        says("SMEMBERS k (rising)", "SADD s b c a aa A").keepsAll("SMEMBERS s", "*5|$1|A|$1|a|$2|aa|$1|b|$1|c|",
                "SMEMBERS none", "*0|");
    }

    private static void smove() {
        String sentence = "SMOVE k k m: 1 or 0 (whether it was there; if so, both are changed, a second one that has "
                + "it already, too)";
        says(sentence, "SADD a 1 2 3", "SADD b 3").changes("SMOVE a b 1", ":1|").holds("SMEMBERS a", "*2|$1|2|$1|3|",
                "SMEMBERS b", "*2|$1|1|$1|3|").changes("SMOVE a b 3", ":1|")
                .holds("SMEMBERS a", "*1|$1|2|", "SMEMBERS b", "*2|$1|1|$1|3|").keepsAll("SMOVE a b 9", ":0|",
                "SMOVE none b 1", ":0|", "SMOVE a none 9", ":0|", "SMOVE none none 1", ":0|", "SMOVE a a 2", ":1|",
                "SMOVE a a 9", ":0|").changes("SMOVE a new 2", ":1|").holds("EXISTS a", ":0|", "SMEMBERS new",
                "*1|$1|2|");
        for (String watched : new String[] {"a", "b"}) {
            for (String member : new String[] {"1", "3"}) {
                says(sentence, "SADD a 1 2 3", "SADD b 3").by(1, "WATCH " + watched, "+OK|")
                        .answers("SMOVE a b " + member, ":1|").by(1, "MULTI", "+OK|").by(1, "EXEC", "*-1|");
            }
            says(sentence, "SADD a 1 2 3", "SADD b 3").by(1, "WATCH " + watched, "+OK|").answers("SMOVE a b 9", ":0|")
                    .by(1, "MULTI", "+OK|").by(1, "EXEC", "*0|");
        }
    }

    private static void combined() {
        String sentence = "SINTER, SUNION, SDIFF k ... (rising)";
        says(sentence, "SADD a 1 2 3 5", "SADD b 3 2 4", "SADD c 2 9").keepsAll("SINTER a", "*4|$1|1|$1|2|$1|3|$1|5|",
                "SINTER a b", "*2|$1|2|$1|3|", "SINTER b a c", "*1|$1|2|", "SINTER a none", "*0|",
                "SINTER none a", "*0|", "SINTER a a", "*4|$1|1|$1|2|$1|3|$1|5|", "SUNION a", "*4|$1|1|$1|2|$1|3|$1|5|",
                "SUNION c b a", "*6|$1|1|$1|2|$1|3|$1|4|$1|5|$1|9|", "SUNION none c", "*2|$1|2|$1|9|",
                "SUNION none", "*0|", "SDIFF a", "*4|$1|1|$1|2|$1|3|$1|5|", "SDIFF a b", "*2|$1|1|$1|5|", "SDIFF b a",
                "*1|$1|4|", "SDIFF a b c none", "*2|$1|1|$1|5|", "SDIFF none a", "*0|", "SDIFF a a", "*0|");
    }

    /** Sets, and what comes of them, of more members than any of the other tests has. */
    private static void combinedMany() {
        String sentence = "SINTER, SUNION, SDIFF k ... (rising)";
        Scene scene = says(sentence);
        StringBuilder[] rows = {new StringBuilder("*400|"), new StringBuilder("*200|"), new StringBuilder("*100|")};
        for (int i = 0; i < 400; i++) {
            String member = "" + (1000 + i * 123 % 400);
            int number = i * 123 % 400;
            scene.ask(0, (number < 300 ? "SADD a " : "SADD none ") + member);
            scene.ask(0, (number >= 100 ? "SADD b " : "SADD none ") + member);
            String told = "$4|" + (1000 + i) + "|";
            rows[0].append(told);
            rows[1].append(i >= 100 && i < 300 ? told : "");
            rows[2].append(i < 100 ? told : "");
        }
        scene.holds("SUNION a b", rows[0].toString(), "SINTER a b", rows[1].toString(), "SDIFF a b", rows[2].toString(),
                "SUNIONSTORE d b a", ":400|", "SMEMBERS d", rows[0].toString(), "SINTERSTORE d d a b", ":200|",
                "SMEMBERS d",
                rows[1].toString(), "SDIFFSTORE d a b", ":100|", "SMEMBERS d", rows[2].toString());
    }

    private static void stored() {
        String sentence = "with STORE at the name a key first: it becomes that set (whatever it was, its time goes; "
                + "nothing: it is gone): its size";
        for (String was : new String[] {"SET d v", "RPUSH d x", "HSET d f v", "SADD d x y z", "ZADD d 1 x",
            "SET other v"}) {
            String[] setup = {"SADD a 1 2 3", "SADD b 3 4", was, "PEXPIRE d 9"};
            says(sentence, setup).changes("SINTERSTORE d a b", ":1|").holds("SMEMBERS d", "*1|$1|3|", "PTTL d", ":-1|");
            says(sentence, setup).changes("SUNIONSTORE d a b", ":4|").holds("SMEMBERS d", "*4|$1|1|$1|2|$1|3|$1|4|",
                    "PTTL d", ":-1|");
            says(sentence, setup).changes("SDIFFSTORE d a b", ":2|").holds("SMEMBERS d", "*2|$1|1|$1|2|", "PTTL d",
                    ":-1|");
            for (String nothing : new String[] {"SINTERSTORE d a none", "SUNIONSTORE d none", "SDIFFSTORE d a a"}) {
                Scene scene = says(sentence, setup);
                if (was.contains("other")) {
                    scene.keeps(nothing, ":0|");
                } else {
                    scene.changes(nothing, ":0|").holds("EXISTS d", ":0|", "DBSIZE", ":2|").due("keys with a time",
                            scene.steward.total(2), 0);
                }
            }
        }
        // The key may be one of those that the set comes of.
        says(sentence, "SADD a 1 2 3", "SADD b 3 4").changes("SINTERSTORE a a b", ":1|").answers("SMEMBERS a",
                "*1|$1|3|").changes("SUNIONSTORE b a b", ":2|").answers("SMEMBERS b", "*2|$1|3|$1|4|")
                .changes("SDIFFSTORE b b a", ":1|").answers("SMEMBERS b", "*1|$1|4|").changes("SUNIONSTORE b b", ":1|")
                .changes("SDIFFSTORE b a b", ":1|").answers("SMEMBERS b", "*1|$1|3|");
    }

    private static void spop() {
        says("SPOP k: the least member, gone then, or NIL", "SADD s b \u00ff a aa").changes("SPOP s", "$1|a|")
                .changes("SPOP s", "$2|aa|").changes("SPOP s", "$1|b|").answers("SCARD s", ":1|")
                .changes("SPOP s", "$1|<255>|").answers("EXISTS s", ":0|").keeps("SPOP s", "$-1|");
    }

    public static void main(String[] args) {
        pushes();
        pushesIfThere();
        pops();
        llen();
        lrange();
        lindex();
        lset();
        linsert();
        lrem();
        manyWords();
        ltrim();
        lmove();
        rpoplpush();
        hset();
        hsetnx();
        hget();
        hdel();
        hashReads();
        manyFields();
        hincrby();
        saddAndSrem();
        setReads();
        smove();
        combined();
        combinedMany();
        stored();
        spop();
        CHECK.end();
    }
}
