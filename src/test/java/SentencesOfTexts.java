/** The commands about texts, sentence by sentence. */
public final class SentencesOfTexts {
    private static final Check CHECK = new Check();

    private static Scene says(String sentence, String... setup) {
        return new Scene(CHECK, sentence, setup);
    }

    private static void get() {
        says("GET k: the word or NIL", "SET k v", "SET e ''").keepsAll("GET k", "$1|v|", "GET e", "$0||", "GET none",
                "$-1|");
        String most = "m".repeat(16384);
        says("GET k: the word or NIL", "SET k " + most).answers("GET k", "$16384|" + most + "|");
    }

    private static void optionsInAnyOrder() {
        String sentence = "SET k v [NX | XX] [GET] [KEEPTTL | EX i | PX i | EXAT i | PXAT i] (these in any order";
        String[] times = {"KEEPTTL", "EX 5", "PX 5000", "EXAT 5", "PXAT 5000", ""};
        for (String time : times) {
            String left = time.equals("KEEPTTL") ? ":700|" : time.isEmpty() ? ":-1|" : ":5000|";
            String[][] orders = {{"XX", "GET", time}, {"XX", time, "GET"}, {"GET", "XX", time}, {"GET", time, "XX"},
                {time, "XX", "GET"}, {time, "GET", "XX"}};
            for (String[] order : orders) {
                String line = ("SET k w " + String.join(" ", order)).replace("  ", " ").trim();
                says(sentence, "SET k v PX 700").holds(line, "$1|v|", "GET k", "$1|w|", "PTTL k", left);
                says(sentence, "SET k v PX 700").holds(line.toLowerCase(), "$1|v|", "GET k", "$1|w|", "PTTL k", left);
                says(sentence).keeps(line, "$-1|");
                String absent = time.equals("KEEPTTL") ? ":-1|" : left;
                says(sentence).holds(line.replace("XX", "NX"), "$-1|", "GET k", "$1|w|", "PTTL k", absent);
                says(sentence, "SET k v PX 700").keeps(line.replace("XX", "NX"), "$1|v|");
            }
        }
    }

    private static void optionsThatDoNotFit() {
        String sentence = "none twice, one of each | alone; else -ERR syntax";
        Scene scene = says(sentence, "SET k v PX 700");
        String[] times = {"KEEPTTL", "EX 5", "PX 5", "EXAT 5", "PXAT 5"};
        for (String first : times) {
            for (String second : times) {
                scene.keeps("SET k w " + first + " " + second, "-ERR syntax|");
                scene.keeps("SET none w " + first + " GET " + second, "-ERR syntax|");
            }
        }
        scene.keepsAll("SET k w NX NX", "-ERR syntax|", "SET k w XX XX", "-ERR syntax|", "SET k w NX XX",
                "-ERR syntax|", "SET k w XX NX", "-ERR syntax|",
                "SET k w GET GET", "-ERR syntax|", "SET k w NX GET XX", "-ERR syntax|", "SET k w EX", "-ERR syntax|",
                "SET k w PX", "-ERR syntax|",
                "SET k w EXAT", "-ERR syntax|", "SET k w PXAT", "-ERR syntax|", "SET k w GET EX", "-ERR syntax|",
                "SET k w 5", "-ERR syntax|", "SET k w EXX", "-ERR syntax|",
                "SET k w E", "-ERR syntax|", "SET k w ''", "-ERR syntax|", "SET k w KEEPTTL 5", "-ERR syntax|",
                "SET k w NX 5", "-ERR syntax|", "SET k w EX 5 5", "-ERR syntax|");
    }

    private static void setWhatever() {
        String sentence = "the value becomes the text v, whatever it was, its time goes (KEEPTTL: stays";
        for (String was : new String[] {"SET k old", "RPUSH k a b", "HSET k f v", "SADD k a", "ZADD k 1 a"}) {
            says(sentence, was, "PEXPIRE k 700").changes("SET k v", "+OK|").holds("GET k", "$1|v|", "PTTL k", ":-1|")
                    .totals(1, 64 + 1 + 1, 0);
            says(sentence, was, "PEXPIRE k 700").changes("SET k v KEEPTTL", "+OK|").holds("GET k", "$1|v|", "PTTL k",
                    ":700|").totals(1, 64 + 1 + 1, 1);
        }
        says(sentence).changes("SET k ''", "+OK|").holds("GET k", "$0||", "EXISTS k", ":1|").totals(1, 65, 0);
    }

    private static void timesToldToSet() {
        String sentence = "one that is told and isn't after now: the key is gone";
        for (String time : new String[] {"EXAT 1", "EXAT 2", "PXAT 1", "PXAT 1999", "PXAT 2000"}) {
            Scene there = says(sentence, "RPUSH k a", "EXPIRE k 9");
            there.passes(2000, 0).changes("SET k v " + time, "+OK|", "DEL k").answers("EXISTS k", ":0|").totals(0, 0,
                    0);
            Scene absent = says(sentence, "SET other v");
            absent.passes(2000, 0).keeps("SET k v " + time, "+OK|").keeps("SET k v NX " + time, "+OK|")
                    .keeps("SET k v GET " + time, "$-1|");
            Scene refused = says(sentence, "SET k v");
            refused.passes(2000, 0).keeps("SET k w NX " + time, "$-1|").changes("SET k w XX GET " + time, "$1|v|",
                    "DEL k").answers("EXISTS k", ":0|");
        }
        Scene after = says(sentence, "SET k v");
        after.passes(2000, 0).changes("SET k v PXAT 2001", "+OK|").answers("PTTL k", ":1|");
        after.changes("SET k w EXAT 3", "+OK|", "SET k w PXAT 3000").answers("PTTL k", ":1000|");
        after.changes("SET k v EX 1", "+OK|", "SET k v PXAT 3000").changes("SET k v PX 1", "+OK|", "SET k v PXAT 2001")
                .answers("PTTL k", ":1|");
    }

    private static void setIf() {
        String sentence = "NX only if there is no key, XX only if there is one, else NIL and nothing is done";
        says(sentence).keeps("SET k v XX", "$-1|").keeps("SET k v XX EX 5", "$-1|").changes("SET k v NX", "+OK|",
                "SET k v").keeps("SET k w NX", "$-1|")
                .keeps("SET k w EX 5 NX", "$-1|").changes("SET k w XX", "+OK|", "SET k w").answers("GET k", "$1|w|");
        says(sentence, "RPUSH k a").keeps("SET k v NX", "$-1|").changes("SET k v XX", "+OK|", "SET k v")
                .answers("TYPE k", "+string|");
    }

    private static void setAndGet() {
        String sentence = "with GET the answer is the old text or NIL in any case (-WRONGTYPE if it is none)";
        says(sentence).changes("SET k a GET", "$-1|", "SET k a").changes("SET k b GET", "$1|a|", "SET k b")
                .keeps("SET k c NX GET", "$1|b|")
                .changes("SET k d XX GET", "$1|b|", "SET k d").keeps("SET none v XX GET", "$-1|")
                .changes("SET new v NX GET", "$-1|", "SET new v");
        for (String other : new String[] {"RPUSH k a", "HSET k f v", "SADD k a", "ZADD k 1 a"}) {
            says(sentence, other).keepsAll("SET k v GET", "-WRONGTYPE|", "SET k v NX GET", "-WRONGTYPE|",
                    "SET k v XX GET", "-WRONGTYPE|",
                    "SET k v GET EX 5", "-WRONGTYPE|", "SET k v GET KEEPTTL", "-WRONGTYPE|");
        }
    }

    private static void getdelAndGetset() {
        String sentence = "GETDEL k, GETSET k v: the old word or NIL (its time goes)";
        says(sentence, "SET k v PX 9").changes("GETDEL k", "$1|v|", "DEL k").answers("EXISTS k", ":0|").totals(0, 0, 0)
                .keeps("GETDEL k", "$-1|");
        says(sentence, "SET k v PX 9").changes("GETSET k w", "$1|v|", "SET k w").holds("GET k", "$1|w|", "PTTL k",
                ":-1|");
        says(sentence).changes("GETSET k ''", "$-1|", "SET k ''").changes("GETSET k ''", "$0||", "SET k ''");
    }

    private static void setnx() {
        String sentence = "SETNX k v: 1 or 0";
        says(sentence).changes("SETNX k v", ":1|", "SET k v").keeps("SETNX k w", ":0|").holds("GET k", "$1|v|",
                "PTTL k", ":-1|");
        says(sentence, "RPUSH k a").keeps("SETNX k w", ":0|");
    }

    private static void setex() {
        String sentence = "SETEX k i v, PSETEX k i v: +OK";
        says(sentence).changes("SETEX k 5 v", "+OK|", "SET k v PXAT 5000").holds("GET k", "$1|v|", "PTTL k", ":5000|")
                .changes("PSETEX k 5 w", "+OK|", "SET k w PXAT 5").holds("GET k", "$1|w|", "PTTL k", ":5|");
        says(sentence, "SADD k m", "EXPIRE k 3").changes("SETEX k 1 v", "+OK|", "SET k v PXAT 1000").holds("TYPE k",
                "+string|", "PTTL k", ":1000|");
        says(sentence, "SADD k m").changes("PSETEX k 1 v", "+OK|", "SET k v PXAT 1").holds("TYPE k", "+string|",
                "PTTL k", ":1|");
        says(sentence).keepsAll("SETEX k v 5", "-ERR integer|", "PSETEX k v 5", "-ERR integer|");
    }

    private static void mget() {
        says("MGET k ...: a row (NIL also for other sorts)", "SET a 1", "SET b ''", "RPUSH l x", "HSET h f v",
                "SADD s x", "ZADD z 1 x")
                .keeps("MGET a", "*1|$1|1|").keeps("MGET a none b l h s z a", "*8|$1|1|$-1|$0||$-1|$-1|$-1|$-1|$1|1|");
    }

    private static void mset() {
        String sentence = "MSET k v ... +OK (their times go)";
        says(sentence, "SET a 1 PX 9", "RPUSH l x", "PEXPIRE l 9").changes("MSET a 2 l 3 n 4", "+OK|")
                .holds("MGET a l n", "*3|$1|2|$1|3|$1|4|", "PTTL a", ":-1|",
                "PTTL l", ":-1|").totals(3, 3 * 66, 0).changes("MSET a 2", "+OK|").changes("MSET a 1 a 5 a ''", "+OK|")
                .answers("GET a", "$0||");
    }

    private static void msetnx() {
        String sentence = "MSETNX k v ...: 1, or 0 and nothing when one of the keys is there";
        says(sentence, "RPUSH there x").keepsAll("MSETNX there 1", ":0|", "MSETNX a 1 there 2", ":0|",
                "MSETNX there 1 a 2", ":0|", "MSETNX a 1 there 2 b 3", ":0|")
                .changes("MSETNX a 1 b 2", ":1|").answers("MGET a b", "*2|$1|1|$1|2|").keeps("MSETNX c 1 b 2", ":0|")
                .changes("MSETNX d 1 d 2", ":1|").answers("GET d", "$1|2|");
    }

    private static void append() {
        String sentence = "APPEND k v: its length";
        says(sentence).changes("APPEND k abc", ":3|").changes("APPEND k d", ":4|").changes("APPEND k ''", ":4|")
                .answers("GET k", "$4|abcd|").changes("APPEND e ''", ":0|")
                .holds("EXISTS e", ":1|", "GET e", "$0||").totals(2, 65 + 4 + 65, 0);
    }

    private static void strlen() {
        says("STRLEN k", "SET k abc", "SET e ''", "SETRANGE m 16383 x").keepsAll("STRLEN k", ":3|", "STRLEN e", ":0|",
                "STRLEN none", ":0|", "STRLEN m", ":16384|");
    }

    private static void getrange() {
        String sentence = "GETRANGE k i j: bytes i .. j (below 0 from the end: -1 the last one; cut to the text)";
        says(sentence, "SET k abcde", "SET e ''").keepsAll("GETRANGE k 0 0", "$1|a|", "GETRANGE k 0 4", "$5|abcde|",
                "GETRANGE k 0 5", "$5|abcde|", "GETRANGE k 4 4", "$1|e|",
                "GETRANGE k 5 5", "$0||", "GETRANGE k 4 9", "$1|e|", "GETRANGE k 1 3", "$3|bcd|", "GETRANGE k 3 2",
                "$0||", "GETRANGE k 3 3", "$1|d|",
                "GETRANGE k -1 -1", "$1|e|", "GETRANGE k -5 -5", "$1|a|", "GETRANGE k -6 -5", "$1|a|",
                "GETRANGE k -6 -6", "$0||", "GETRANGE k -9 1", "$2|ab|", "GETRANGE k 0 -5", "$1|a|",
                "GETRANGE k 0 -6", "$0||", "GETRANGE k -2 1", "$0||", "GETRANGE k -2 3", "$1|d|", "GETRANGE k 2 -2",
                "$2|cd|", "GETRANGE e 0 -1", "$0||",
                "GETRANGE k -9223372036854775808 9223372036854775807", "$5|abcde|",
                "GETRANGE k 9223372036854775807 -9223372036854775808", "$0||",
                "GETRANGE k 0 9223372036854775807", "$5|abcde|", "GETRANGE k 4294967296 4294967297", "$0||",
                "GETRANGE k -4294967296 4294967297", "$5|abcde|");
    }

    private static void setrange() {
        String sentence = "SETRANGE k i v: from i on, with 0s between; v empty: nothing changes; its length (-ERR "
                + "range: i below 0)";
        says(sentence, "SET k abcde").changes("SETRANGE k 0 X", ":5|").changes("SETRANGE k 4 YZ", ":6|")
                .answers("GET k", "$6|XbcdYZ|").changes("SETRANGE k 6 !", ":7|")
                .changes("SETRANGE k 9 ?", ":10|").answers("GET k", "$10|XbcdYZ!<0><0>?|").changes("SETRANGE k 1 b",
                ":10|").changes("SETRANGE n 2 v", ":3|").answers("GET n", "$3|<0><0>v|")
                .changes("SETRANGE m 0 v", ":1|").answers("GET m", "$1|v|");
        says(sentence, "SET k abcde").keepsAll("SETRANGE k 0 ''", ":5|", "SETRANGE k 5 ''", ":5|",
                "SETRANGE k 16385 ''", ":5|", "SETRANGE k 9223372036854775807 ''", ":5|", "SETRANGE none 3 ''", ":0|",
                "SETRANGE k -1 ''", "-ERR range|", "SETRANGE k -1 v", "-ERR range|", "SETRANGE none -1 v",
                "-ERR range|", "SETRANGE k -9223372036854775808 v", "-ERR range|");
        // What stood behind the end of a text that has become shorter is 0 then, too.
        says(sentence, "SET k abcdefgh", "SET k a").holds("SETRANGE k 5 b", ":6|", "GET k", "$6|a<0><0><0><0>b|",
                "SET k 123456", "+OK|", "INCRBY k -123450", ":6|", "SETRANGE k 3 x", ":4|",
                "GET k", "$4|6<0><0>x|");
    }

    private static void counting() {
        String sentence = "INCR k, DECR k, INCRBY k i, DECRBY k i: the text as an integer (0 if absent; -ERR integer "
                + "if it is none; -ERR overflow) plus that";
        says(sentence).changes("INCR a", ":1|").changes("DECR b", ":-1|").changes("INCRBY c -5", ":-5|")
                .changes("DECRBY d -5", ":5|").changes("INCRBY e 0", ":0|").changes("DECRBY f 0", ":0|")
                .holds("MGET a b c d e f", "*6|$1|1|$2|-1|$2|-5|$1|5|$1|0|$1|0|");
        says(sentence, "SET k ''").keepsAll("INCR k", "-ERR integer|", "DECR k", "-ERR integer|", "INCRBY k 0",
                "-ERR integer|", "DECRBY k 0", "-ERR integer|");
        String most = "9223372036854775807";
        String least = "-9223372036854775808";
        says(sentence, "SET k 9223372036854775806").changes("INCR k", ":" + most + "|").keepsAll("INCR k",
                "-ERR overflow|", "INCRBY k 1", "-ERR overflow|", "DECRBY k -1", "-ERR overflow|",
                "INCRBY k " + most, "-ERR overflow|", "DECRBY k " + least, "-ERR overflow|").changes("INCRBY k 0",
                ":" + most + "|").changes("DECRBY k 0", ":" + most + "|")
                .changes("INCRBY k " + least, ":-1|").changes("DECRBY k " + least, ":" + most + "|");
        says(sentence, "SET k -9223372036854775807").changes("DECR k", ":" + least + "|").keepsAll("DECR k",
                "-ERR overflow|", "DECRBY k 1", "-ERR overflow|", "INCRBY k -1", "-ERR overflow|",
                "INCRBY k " + least, "-ERR overflow|", "DECRBY k " + most, "-ERR overflow|").changes("DECRBY k 0",
                ":" + least + "|").answers("GET k", "$20|" + least + "|")
                .changes("DECRBY k " + least, ":0|").keeps("DECRBY k " + least, "-ERR overflow|")
                .changes("INCRBY k " + least, ":" + least + "|");
        says(sentence).keeps("DECRBY none " + least, "-ERR overflow|").changes("INCRBY new " + least, ":" + least
                + "|");
        says(sentence, "SET k 9").changes("INCR k", ":10|").totals(1, 65 + 2, 0).changes("DECR k", ":9|").totals(1,
                65 + 1, 0).changes("DECRBY k 10", ":-1|").totals(1, 65 + 2, 0);
    }

    private static void setbit() {
        String sentence = "SETBIT k i b: bit i (byte i / 8, the highest one first), 0s between; what it was (-ERR "
                + "range: i below 0 or above 131071, b not 0 or 1)";
        says(sentence).changes("SETBIT k 0 1", ":0|").answers("GET k", "$1|<128>|").changes("SETBIT k 7 1", ":0|")
                .answers("GET k", "$1|<129>|").changes("SETBIT k 7 1", ":1|")
                .changes("SETBIT k 0 0", ":1|").answers("GET k", "$1|<1>|").changes("SETBIT k 0 0", ":0|")
                .changes("SETBIT k 8 1", ":0|").answers("GET k", "$2|<1><128>|")
                .changes("SETBIT k 39 1", ":0|").answers("GET k", "$5|<1><128><0><0><1>|").changes("SETBIT k 47 0",
                ":0|").answers("GET k", "$6|<1><128><0><0><1><0>|");
        for (int bit = 0; bit < 16; bit++) {
            Scene scene = says(sentence).changes("SETBIT k " + bit + " 1", ":0|");
            int at = 128 >> bit % 8;
            scene.due("bit " + bit, scene.client.ask(0, "GET k"), bit < 8 ? "$1\r\n" + (char) at + "\r\n"
                    : "$2\r\n\u0000" + (char) at + "\r\n");
        }
        says(sentence).changes("SETBIT k 131071 1", ":0|").holds("STRLEN k", ":16384|", "GETBIT k 131071", ":1|",
                "BITCOUNT k", ":1|").changes("SETBIT k 131071 0", ":1|");
        Scene wrong = says(sentence, "SET k a");
        for (String key : new String[] {"k", "none"}) {
            wrong.keepsAll("SETBIT " + key + " -1 1", "-ERR range|", "SETBIT " + key + " 131072 1", "-ERR range|",
                    "SETBIT " + key + " 131072 0", "-ERR range|",
                    "SETBIT " + key + " 9223372036854775807 1", "-ERR range|", "SETBIT " + key
                    + " -9223372036854775808 1", "-ERR range|", "SETBIT " + key + " 4294967296 1", "-ERR range|",
                    "SETBIT " + key + " 0 2", "-ERR range|", "SETBIT " + key + " 0 -1", "-ERR range|", "SETBIT " + key
                    + " 0 10", "-ERR range|", "SETBIT " + key + " -1 2", "-ERR range|");
        }
    }

    private static void getbit() {
        String sentence = "GETBIT k i (likewise)";
        // 'a' is 97: 01100001.
        says(sentence, "SET k a").keepsAll("GETBIT k 0", ":0|", "GETBIT k 1", ":1|", "GETBIT k 2", ":1|", "GETBIT k 3",
                ":0|", "GETBIT k 7", ":1|", "GETBIT k 8", ":0|", "GETBIT k 131071", ":0|",
                "GETBIT none 131071", ":0|", "GETBIT k -1", "-ERR range|", "GETBIT k 131072", "-ERR range|",
                "GETBIT none -1", "-ERR range|", "GETBIT none 131072", "-ERR range|",
                "GETBIT k 9223372036854775807", "-ERR range|", "GETBIT k 4294967297", "-ERR range|");
    }

    private static void bitcount() {
        String sentence = "BITCOUNT k [i j] (the 1s of bytes as in GETRANGE)";
        Scene scene = says(sentence, "SET e ''");
        scene.client.send(0, Client.star("SET", "k", "\u0000\u00ff\u0080\u0001\u0007"));
        scene.client.taken(0);
        scene.keepsAll("BITCOUNT k", ":13|", "BITCOUNT k 0 -1", ":13|", "BITCOUNT k 0 0", ":0|", "BITCOUNT k 1 1",
                ":8|", "BITCOUNT k 1 2", ":9|", "BITCOUNT k -1 -1", ":3|", "BITCOUNT k -2 -1", ":4|",
                "BITCOUNT k 4 9", ":3|", "BITCOUNT k 5 9", ":0|", "BITCOUNT k -9 1", ":8|", "BITCOUNT k -9 -6", ":0|",
                "BITCOUNT k 2 1", ":0|", "BITCOUNT e", ":0|", "BITCOUNT e 0 -1", ":0|",
                "BITCOUNT none", ":0|", "BITCOUNT k -9223372036854775808 9223372036854775807", ":13|");
        String all = "\u00ff".repeat(16384);
        Scene most = says(sentence);
        most.client.send(0, Client.star("SET", "k", all));
        most.client.taken(0);
        most.answers("BITCOUNT k", ":131072|");
    }

    private static void size() {
        String sentence = "What would make a text of more than 16384 bytes: -ERR size, and nothing is done";
        says(sentence, "SETRANGE k 16382 x").changes("APPEND k y", ":16384|").keepsAll("APPEND k z", "-ERR size|",
                "SETRANGE k 16384 z", "-ERR size|", "SETRANGE k 16383 yz", "-ERR size|",
                "SETRANGE k 9223372036854775807 z", "-ERR size|", "SETRANGE none 16384 z", "-ERR size|")
                .changes("APPEND k ''", ":16384|").changes("SETRANGE k 16383 z", ":16384|");
        String half = "h".repeat(8192);
        says(sentence, "SET k " + half).keeps("APPEND k " + half + "h", "-ERR size|").changes("APPEND k " + half,
                ":16384|").keeps("APPEND k " + half, "-ERR size|");
        says(sentence, "SET k " + half).keeps("SETRANGE k 8193 " + half, "-ERR size|")
                .changes("SETRANGE k 8192 " + half, ":16384|");
        says(sentence).keeps("SETRANGE k 1 " + "m".repeat(16384), "-ERR size|").changes("SETRANGE k 0 "
                + "m".repeat(16384), ":16384|").changes("APPEND n " + "m".repeat(16384), ":16384|");
    }

    public static void main(String[] args) {
        get();
        optionsInAnyOrder();
        optionsThatDoNotFit();
        setWhatever();
        timesToldToSet();
        setIf();
        setAndGet();
        getdelAndGetset();
        setnx();
        setex();
        mget();
        mset();
        msetnx();
        append();
        strlen();
        getrange();
        setrange();
        counting();
        setbit();
        getbit();
        bitcount();
        size();
        CHECK.end();
    }
}
