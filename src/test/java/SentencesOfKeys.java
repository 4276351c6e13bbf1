/** The commands about keys of any sort, patterns and times, sentence by sentence. */
public final class SentencesOfKeys {
    private static final Check CHECK = new Check();
    private static final String[] ALL_SORTS = {"SET t 5", "RPUSH l a b", "HSET h f 1", "SADD s a b", "ZADD z 1 a"};

    private static Scene says(String sentence, String... setup) {
        return new Scene(CHECK, sentence, setup);
    }

    private static void del() {
        String sentence = "DEL k ... (how many went)";
        says(sentence, ALL_SORTS).changes("DEL t none", ":1|").keeps("DEL none", ":0|").keeps("DEL t t", ":0|")
                .changes("DEL l h l h", ":2|").changes("DEL s z", ":2|").totals(0, 0, 0);
    }

    private static void exists() {
        says("EXISTS k ... (each as often as named)", ALL_SORTS).keepsAll("EXISTS t", ":1|", "EXISTS none", ":0|",
                "EXISTS t t none t", ":3|", "EXISTS t l h s z none", ":5|");
    }

    private static void type() {
        says("TYPE k: + and string, list, hash, set, zset or none", ALL_SORTS).keepsAll("TYPE t", "+string|", "TYPE l",
                "+list|", "TYPE h", "+hash|", "TYPE s", "+set|", "TYPE z", "+zset|",
                "TYPE none", "+none|");
    }

    private static void rename() {
        String sentence = "RENAME k k: +OK, without the first key -ERR missing";
        says(sentence, "SET a v", "SET b w").keepsAll("RENAME none a", "-ERR missing|", "RENAME none none",
                "-ERR missing|", "RENAME none new", "-ERR missing|")
                .changes("RENAME a new", "+OK|").holds("EXISTS a", ":0|", "GET new", "$1|v|").changes("RENAME new b",
                "+OK|").holds("DBSIZE", ":1|", "GET b", "$1|v|");
    }

    private static void renamenx() {
        String sentence = "RENAMENX k k likewise: 1, or 0 when the second is there";
        says(sentence, "SET a v", "RPUSH b w").keepsAll("RENAMENX none a", "-ERR missing|", "RENAMENX none none",
                "-ERR missing|", "RENAMENX none new", "-ERR missing|", "RENAMENX a b", ":0|")
                .changes("RENAMENX a new", ":1|").holds("EXISTS a", ":0|", "GET new", "$1|v|");
    }

    private static void renamedValues() {
        String sentence = "(the value and its time go along";
        for (String made : new String[] {"SET # v", "RPUSH # a b", "HSET # f v", "SADD # a b", "ZADD # 1 a 2 b"}) {
            for (String over : new String[] {"SET other w", "RPUSH # x", "SET # w PX 9", "ZADD # 5 x"}) {
                Scene scene = says(sentence, made.replace("#", "first"), "PEXPIRE first 70", over.replace("#", "to"));
                Scene same = says(sentence, made.replace("#", "to"), "PEXPIRE to 70");
                scene.changes("RENAME first to", "+OK|").holds("EXISTS first", ":0|", "PTTL to", ":70|", "DEL other",
                        over.contains("other") ? ":1|" : ":0|");
                scene.totals(1, same.steward.total(1), 1);
                scene.steward.rewrite();
                same.steward.rewrite();
                scene.due(made + " over " + over, scene.client.log(), same.client.log());
            }
        }
        says(sentence, "SET a v", "SET b w PX 9").changes("RENAME a b", "+OK|").answers("PTTL b", ":-1|").totals(1, 66,
                0);
        says(sentence, "SET a v PX 9").changes("RENAMENX a bcd", ":1|").answers("PTTL bcd", ":9|").totals(1, 68, 1);
    }

    private static void renamedToItself() {
        says("the same key twice: +OK, 0)", "RPUSH k a", "PEXPIRE k 9").keepsAll("RENAME k k", "+OK|", "RENAMENX k k",
                ":0|").answers("PTTL k", ":9|");
    }

    /** Whether a pattern fits a key that stands alone. */
    private static void fits(String sentence, String pattern, String key, boolean want) {
        Scene scene = says(sentence);
        scene.client.send(0, Client.star("SET", key, "v"));
        scene.client.taken(0);
        scene.client.send(0, Client.star("KEYS", pattern));
        String row = want ? "*1\r\n$" + key.length() + "\r\n" + key + "\r\n" : "*0\r\n";
        scene.due(Client.shown(pattern) + " of " + Client.shown(key), Client.shown(scene.client.taken(0)),
                Client.shown(row));
    }

    private static void fitsAll(String sentence, String pattern, String keys, String others) {
        for (String key : keys.isEmpty() ? new String[0] : keys.split(" ")) {
            fits(sentence, pattern, key, true);
        }
        for (String key : others.isEmpty() ? new String[0] : others.split(" ")) {
            fits(sentence, pattern, key, false);
        }
    }

    private static void keys() {
        String sentence = "KEYS p: a row of the keys that a PATTERN p fits, rising";
        says(sentence).keeps("KEYS *", "*0|");
        says(sentence, "MSET b 1 a 1 ab 1 B 1", "RPUSH c x").keepsAll("KEYS *", "*5|$1|B|$1|a|$2|ab|$1|b|$1|c|",
                "KEYS a*", "*2|$1|a|$2|ab|", "KEYS none", "*0|", "KEYS c", "*1|$1|c|", "KEYS ''", "*0|");
        fits(sentence, "", "", true);
        fits(sentence, "*", "", true);
        fits(sentence, "?", "", false);
        fits(sentence, "", "a", false);
    }

    private static void marks() {
        String one = "? one byte";
        fitsAll(one, "?", "a ? * \u00ff", "aa");
        fitsAll(one, "a?c", "abc a?c a*c", "ac abbc abcd");
        fits(one, "?", "\n", true);
        fitsAll(one, "??", "ab", "a abc");
        String any = "* any";
        fitsAll(any, "*", "a abc * \u00ff\u0000", "");
        fitsAll(any, "a*", "a ab a*", "b ba");
        fitsAll(any, "*a", "a ba aa aba", "ab b");
        fitsAll(any, "a*b*c", "abc aXbYc abbcc abcbc ac-b-c", "acb ab abcd");
        fitsAll(any, "**", "a ab", "");
        fitsAll(any, "*a*a*", "aa baba aXa", "a bab");
        fitsAll(any, "*?", "a ab", "");
        fitsAll(any, "*ab?", "aabx abab- abx", "ab aab abxy");
        fits(any, "a*a", "a", false);
        fits(any, "***", "", true);
    }

    private static void classes() {
        String these = "[abc] one of these";
        fitsAll(these, "[abc]", "a b c", "d ab [abc] A");
        fitsAll(these, "x[ab]y", "xay xby", "xcy xaby xy");
        fitsAll(these, "[a*?]", "a * ?", "b ab");
        fitsAll(these, "[[]", "[", "]");
        fitsAll(these, "[a][b]", "ab", "ba a b");
        fitsAll(these, "*[ab]", "a cb aab", "abc");
        String none = "[^ none";
        fitsAll(none, "[^abc]", "d ^ A \u00ff", "a b c dd");
        fitsAll(none, "[a^]", "a ^", "b");
        fitsAll(none, "[^^]", "a", "^");
        fitsAll(none, "[^a-c]", "d -", "a b c");
        fitsAll(none, "x[^]y", "xay x]y", "xy xaay");
        fits(none, "[^a]", "", false);
        String span = "a-z from .. to (the first above the second: nothing)";
        fitsAll(span, "[a-c]", "a b c", "d - A `");
        fitsAll(span, "[a-a]", "a", "b -");
        fitsAll(span, "[c-a]", "", "a b c -");
        fitsAll(span, "[^c-a]", "a b c - d", "");
        fitsAll(span, "[a-cx-z]", "a c x z", "d w -");
        fitsAll(span, "[0-9a]", "0 5 9 a", "b - /");
        fitsAll(span, "[\u0080-\u00ff]", "\u0080 \u00ff \u00c3", "a \u007f");
        fitsAll(span, "[a-\u00ff]", "a \u0080 \u00ff", "A");
        fitsAll(span, "[+--]", "+ , -", ". *");
        fitsAll(span, "[a-c-e]", "a b c - e", "d");
    }

    private static void plainBytes() {
        String plain = "in it and outside a \\ makes the next byte plain";
        fitsAll(plain, "\\*", "*", "a \\*");
        fitsAll(plain, "\\?", "?", "a");
        fitsAll(plain, "\\[a]", "[a]", "a");
        fitsAll(plain, "\\\\", "\\", "\\\\");
        fitsAll(plain, "\\a", "a", "\\a");
        fitsAll(plain, "[\\]]", "]", "\\ a");
        fitsAll(plain, "[\\^a]", "^ a", "b \\");
        fitsAll(plain, "[a\\-c]", "a - c", "b \\");
        fitsAll(plain, "[\\\\]", "\\", "a");
        fitsAll(plain, "[\\a-\\c]", "a b c", "d \\ -");
        fitsAll(plain, "[\\a", "a", "\\ b");
        fitsAll(plain, "[\\]", "]", "\\ a");
        fitsAll(plain, "[a-\\c", "a b c", "\\ d -");
        fitsAll(plain, "x\\*", "x*", "x xa x\\");
        fitsAll(plain, "[a-\\]]", "", "a ] \\");
        fitsAll(plain, "[A-\\]]", "A Z [ \\ ]", "^ @");
        String ends = "] ends it, the first one too, or the pattern's end";
        fitsAll(ends, "[]", "", "a ] []");
        fitsAll(ends, "[]a]", "", "a ] a] ]a] []a]");
        fitsAll(ends, "[^]a", "xa ]a", "x a");
        fitsAll(ends, "[ab", "a b", "ab [ab c");
        fitsAll(ends, "x[ab", "xa xb", "x xab");
        fitsAll(ends, "[", "", "[ a");
        fitsAll(ends, "[^", "a [ ^ ]", "aa");
        fitsAll(ends, "[^a", "b", "a bb");
        fitsAll(ends, "[a]]", "a]", "a ]");
        String dash = "- with nothing or ] behind it is itself";
        fitsAll(dash, "[a-]", "a -", "b ]");
        fitsAll(dash, "[a-", "a -", "b");
        fitsAll(dash, "[-]", "-", "a ]");
        fitsAll(dash, "[-", "-", "a");
        fitsAll(dash, "[^-]", "a", "-");
        fitsAll(dash, "[^a-]", "b", "a -");
        fitsAll(dash, "[-a]", "- a", "b ]");
        fitsAll(dash, "[a-b-]", "a b -", "c");
        String others = "others themselves, \\ at the end, too";
        fitsAll(others, "abc", "abc", "ab abcd ABC aXc");
        fitsAll(others, "a-b]c^", "a-b]c^", "abc");
        fitsAll(others, "\\", "\\", "a");
        fitsAll(others, "a\\", "a\\", "a a\\\\");
        fitsAll(others, "*\\", "\\ a\\ \\\\", "a");
        fitsAll(others, "[\\", "\\", "a [");
        fitsAll(others, "[a\\", "a \\", "b");
        fitsAll(others, "[A-\\", "A [ \\", "] @");
        fits(others, "\u00e9\u0000", "\u00e9\u0000", true);
        fits(others, "\u00e9", "\u0069", false);
    }

    private static void dbsizeAndFlushall() {
        says("DBSIZE. FLUSHALL: +OK", ALL_SORTS).keeps("DBSIZE", ":5|").answers("EXPIRE t 9", ":1|").answers("SET k v",
                "+OK|").keeps("DBSIZE", ":6|")
                .changes("FLUSHALL", "+OK|").totals(0, 0, 0).keeps("DBSIZE", ":0|");
    }

    private static void flushallOfEach() {
        String sentence = "DBSIZE. FLUSHALL: +OK";
        says(sentence).keepsAll("DBSIZE", ":0|", "FLUSHALL", "+OK|");
        says(sentence, "SET k v").keeps("DBSIZE", ":1|").changes("FLUSHALL", "+OK|").totals(0, 0, 0);
        for (String key : new String[] {"t", "l", "h", "s", "z"}) {
            says(sentence, ALL_SORTS).by(1, "WATCH " + key, "+OK|").answers("FLUSHALL", "+OK|").by(1, "MULTI", "+OK|")
                    .by(1, "EXEC", "*-1|");
        }
        says(sentence, ALL_SORTS).by(1, "WATCH none", "+OK|").answers("FLUSHALL", "+OK|").by(1, "MULTI", "+OK|")
                .by(1, "EXEC", "*0|");
    }

    /** Each of many keys has its own value, when others come ahead of it and when others go. */
    private static void manyKeys() {
        Scene scene = says("KEYS p: a row of the keys that a PATTERN p fits, rising");
        StringBuilder all = new StringBuilder("*700|");
        for (int i = 0; i < 700; i++) {
            scene.answers("SET " + (1000 + i * 353 % 700) + " " + i * 353 % 700, "+OK|");
            all.append("$4|" + (1000 + i) + "|");
        }
        scene.answers("KEYS *", all.toString()).answers("DBSIZE", ":700|");
        for (int i = 0; i < 700; i += 2) {
            scene.answers("DEL " + (1000 + i), ":1|");
        }
        for (int i = 0; i < 700; i++) {
            String number = "" + i;
            scene.answers("GET " + (1000 + i), i % 2 == 0 ? "$-1|" : "$" + number.length() + "|" + number + "|");
        }
        scene.answers("DBSIZE", ":350|").answers("FLUSHALL", "+OK|").totals(0, 0, 0);
    }

    private static void expire() {
        String sentence = "EXPIRE k i (seconds), PEXPIRE k i (thousandths), EXPIREAT k i, PEXPIREAT k i: 1, or 0 "
                + "without key; the time of the key, in thousandths";
        Scene scene = says(sentence, ALL_SORTS);
        scene.passes(3000, 0);
        for (String key : new String[] {"t", "l", "h", "s", "z"}) {
            scene.changes("EXPIRE " + key + " 5", ":1|", "PEXPIREAT " + key + " 8000").answers("PTTL " + key, ":5000|")
                    .changes("PEXPIRE " + key + " 5", ":1|", "PEXPIREAT " + key + " 3005").answers("PTTL " + key, ":5|")
                    .changes("EXPIREAT " + key + " 5", ":1|", "PEXPIREAT " + key + " 5000").answers("PTTL " + key,
                    ":2000|")
                    .changes("PEXPIREAT " + key + " 5000", ":1|").answers("PTTL " + key, ":2000|");
        }
        scene.keepsAll("EXPIRE none 5", ":0|", "PEXPIRE none 5", ":0|", "EXPIREAT none 5", ":0|", "PEXPIREAT none 5000",
                ":0|");
    }

    private static void expireAtOnce() {
        String sentence = "one that is not after now: the key is gone";
        String[] come = {"EXPIRE k 0", "EXPIRE k -1", "PEXPIRE k 0", "PEXPIRE k -1", "EXPIREAT k 3", "EXPIREAT k 0",
            "EXPIREAT k -1", "PEXPIREAT k 3000", "PEXPIREAT k 2999", "PEXPIREAT k 0",
            "PEXPIREAT k -9007199254740991"};
        for (String line : come) {
            Scene scene = says(sentence, "RPUSH k a", "EXPIRE k 9");
            scene.passes(3000, 0).changes(line, ":1|", "DEL k").answers("EXISTS k", ":0|").totals(0, 0, 0).keeps(line,
                    ":0|");
        }
        for (String line : new String[] {"PEXPIRE k 1", "PEXPIREAT k 3001"}) {
            Scene scene = says(sentence, "RPUSH k a");
            scene.passes(3000, 0).changes(line, ":1|", "PEXPIREAT k 3001").answers("PTTL k", ":1|").passes(1, 1)
                    .answers("EXISTS k", ":0|");
        }
        Scene second = says(sentence, "RPUSH k a");
        second.passes(3000, 0).changes("EXPIREAT k 4", ":1|", "PEXPIREAT k 4000").passes(999, 0).passes(1, 1);
    }

    private static void persist() {
        says("PERSIST k: 1 when it had a time", "SET k v PX 9", "SET n v").changes("PERSIST k", ":1|").answers("PTTL k",
                ":-1|").keepsAll("PERSIST k", ":0|", "PERSIST n", ":0|", "PERSIST none", ":0|")
                .passes(9, 0).answers("GET k", "$1|v|");
    }

    private static void ttl() {
        String sentence = "TTL k, PTTL k: the time left (of TTL that and 500, divided by 1000), -1 without a time, -2 "
                + "without key";
        Scene scene = says(sentence, "SET k v", "RPUSH l a").keepsAll("TTL k", ":-1|", "PTTL k", ":-1|", "TTL l",
                ":-1|", "TTL none", ":-2|", "PTTL none", ":-2|");
        String[] rows = {"1", ":0|", "499", ":0|", "500", ":1|", "999", ":1|", "1000", ":1|", "1499", ":1|", "1500",
            ":2|", "9007199254740991", ":9007199254741|"};
        for (int i = 0; i < rows.length; i += 2) {
            scene.answers("PEXPIRE k " + rows[i], ":1|").keeps("TTL k", rows[i + 1]).keeps("PTTL k", ":" + rows[i]
                    + "|");
        }
        scene.answers("PEXPIRE k 700", ":1|").passes(200, 0).keepsAll("PTTL k", ":500|", "TTL k", ":1|").passes(1, 0)
                .keepsAll("PTTL k", ":499|", "TTL k", ":0|")
                .passes(499, 1).keepsAll("PTTL k", ":-2|", "TTL k", ":-2|");
    }

    private static void numbersOfTimes() {
        String sentence = "Where a number that is told as a time, or the time that comes of it (in thousandths), is "
                + "beyond 9007199254740991 or below minus that: -ERR time";
        String[] last = {"PEXPIREAT # 9007199254740991", "PEXPIRE # 9007199254740991", "EXPIRE # 9007199254740",
            "EXPIREAT # 9007199254740"};
        String[] first = {"PEXPIREAT # 9007199254740992", "PEXPIRE # 9007199254740992", "EXPIRE # 9007199254741",
            "EXPIREAT # 9007199254741"};
        String[] sets = {"SET # v PXAT 9007199254740991", "SET # v PX 9007199254740991", "SET # v EX 9007199254740",
            "SET # v EXAT 9007199254740", "SETEX # 9007199254740 v",
            "PSETEX # 9007199254740991 v"};
        String[] beyond = {"SET # v PXAT 9007199254740992", "SET # v PX 9007199254740992", "SET # v EX 9007199254741",
            "SET # v EXAT 9007199254741", "SETEX # 9007199254741 v",
            "PSETEX # 9007199254740992 v"};
        for (int i = 0; i < last.length; i++) {
            Scene scene = says(sentence, "SET k v").keeps(first[i].replace("#", "k"), "-ERR time|")
                    .keeps(first[i].replace("#", "none"), "-ERR time|");
            String time = last[i].startsWith("P") ? "9007199254740991" : "9007199254740000";
            scene.changes(last[i].replace("#", "k"), ":1|", "PEXPIREAT k " + time).keeps(last[i].replace("#", "none"),
                    ":0|");
            String low = last[i].replace("# ", "# -");
            scene.keeps(first[i].replace("# ", "k -"), "-ERR time|").keeps(first[i].replace("# ", "none -"),
                    "-ERR time|");
            scene.keeps(low.replace("#", "none"), ":0|").changes(low.replace("#", "k"), ":1|", "DEL k");
        }
        for (int i = 0; i < sets.length; i++) {
            String time = sets[i].contains("991") ? "9007199254740991" : "9007199254740000";
            says(sentence, "RPUSH k a").keeps(beyond[i].replace("#", "k"), "-ERR time|").keeps(beyond[i].replace("#",
                    "none"), "-ERR time|")
                    .changes(sets[i].replace("#", "k"), "+OK|", "SET k v PXAT " + time);
        }
        for (String line : new String[] {"EXPIRE k #", "PEXPIRE k #", "EXPIREAT k #", "PEXPIREAT k #", "SET k v EX #",
            "SET k v PXAT #", "SETEX k # v"}) {
            says(sentence, "SET k v").keepsAll(line.replace("#", "9223372036854775807"), "-ERR time|", line.replace("#",
                    "-9223372036854775808"), "-ERR time|",
                    line.replace("#", "9223372036854775"), "-ERR time|");
        }
        // With the time that has gone on the one that comes of it is beyond.
        Scene later = says(sentence, "SET k v");
        later.passes(1, 0).keepsAll("PEXPIRE k 9007199254740991", "-ERR time|", "SET k w PX 9007199254740991",
                "-ERR time|", "PSETEX k 9007199254740991 w", "-ERR time|")
                .changes("PEXPIRE k 9007199254740990", ":1|", "PEXPIREAT k 9007199254740991")
                .changes("SET k w PX 9007199254740990", "+OK|", "SET k w PXAT 9007199254740991")
                .changes("PEXPIREAT k 9007199254740991", ":1|");
        later.passes(990, 0).changes("EXPIRE k 9007199254740", ":1|", "PEXPIREAT k 9007199254740991").passes(1, 0)
                .keeps("EXPIRE k 9007199254740", "-ERR time|");
        Scene low = says(sentence, "SET k v");
        low.passes(1, 0).keeps("PEXPIRE k -9007199254740992", "-ERR time|").changes("PEXPIRE k -9007199254740991",
                ":1|", "DEL k");
    }

    private static void numbersBelowOne() {
        String sentence = "for SET, SETEX, PSETEX also a number below 1";
        for (String number : new String[] {"0", "-1", "-9007199254740991"}) {
            for (String key : new String[] {"k", "none"}) {
                says(sentence, "SET k v").keepsAll("SET " + key + " v EX " + number, "-ERR time|", "SET " + key
                        + " v PX " + number, "-ERR time|", "SET " + key + " v EXAT " + number, "-ERR time|",
                        "SET " + key + " v PXAT " + number, "-ERR time|", "SETEX " + key + " " + number + " v",
                        "-ERR time|", "PSETEX " + key + " " + number + " v", "-ERR time|");
            }
        }
        says(sentence).changes("SET k v EX 1", "+OK|", "SET k v PXAT 1000").changes("SET k v PX 1", "+OK|",
                "SET k v PXAT 1").changes("SET k v EXAT 1", "+OK|", "SET k v PXAT 1000")
                .changes("SET k v PXAT 1", "+OK|").changes("SETEX k 1 v", "+OK|", "SET k v PXAT 1000")
                .changes("PSETEX k 1 v", "+OK|", "SET k v PXAT 1");
    }

    public static void main(String[] args) {
        del();
        exists();
        type();
        rename();
        renamenx();
        renamedValues();
        renamedToItself();
        keys();
        marks();
        classes();
        plainBytes();
        dbsizeAndFlushall();
        flushallOfEach();
        manyKeys();
        expire();
        expireAtOnce();
        persist();
        ttl();
        numbersOfTimes();
        numbersBelowOne();
        CHECK.end();
    }
}
