/** The commands about orders, sentence by sentence. */
public final class SentencesOfOrders {
    private static final Check CHECK = new Check();
    private static final String MOST = "9223372036854775807";
    private static final String LEAST = "-9223372036854775808";

    private static Scene says(String sentence, String... setup) {
        return new Scene(CHECK, sentence, setup);
    }

    private static void order() {
        String sentence = "Orders: members with SCORES (integers), by score, then rising";
        says(sentence, "ZADD z 2 b 1 c 2 a 2 aa -5 z 2 B 0 '' " + MOST + " m " + LEAST + " l")
                .keeps("ZRANGE z 0 -1 WITHSCORES", "*18|$1|l|$20|" + LEAST
                + "|$1|z|$2|-5|$0||$1|0|$1|c|$1|1|$1|B|$1|2|$1|a|$1|2|"
                + "$2|aa|$1|2|$1|b|$1|2|$1|m|$19|" + MOST + "|").answers("ZADD z 0 b", ":0|").answers("ZRANGE z 0 4",
                "*5|$1|l|$1|z|$0||$1|b|$1|c|");
    }

    private static void manyMembers() {
        Scene scene = says("Orders: members with SCORES (integers), by score, then rising");
        StringBuilder all = new StringBuilder("*600|");
        for (int i = 0; i < 600; i++) {
            int number = i * 247 % 600;
            scene.answers("ZADD z " + -(number / 10) + " " + (1000 + number), ":1|");
            all.append("$4|" + (1000 + (59 - i / 10) * 10 + i % 10) + "|");
        }
        scene.answers("ZRANGE z 0 -1", all.toString());
        for (int i = 0; i < 600; i++) {
            int number = (59 - i / 10) * 10 + i % 10;
            scene.answers("ZRANK z " + (1000 + number), ":" + i + "|");
        }
        scene.answers("ZCOUNT z -9 0", ":100|").answers("ZREMRANGEBYSCORE z -9 0", ":100|").totals(1, 65 + 500 * 52, 0);
    }

    private static void nx() {
        String sentence = "NX new ones alone";
        says(sentence, "ZADD z 1 a").keepsAll("ZADD z NX 2 a", ":0|", "ZADD z NX CH 2 a", ":0|", "ZADD z NX INCR 2 a",
                "$-1|").changes("ZADD z NX 2 a 3 b", ":1|").changes("ZADD z NX CH 5 b 4 c 9 c", ":1|")
                .changes("ZADD z NX INCR 7 d", "$1|7|").answers("ZRANGE z 0 -1 WITHSCORES",
                "*8|$1|a|$1|1|$1|b|$1|3|$1|c|$1|4|$1|d|$1|7|");
        says(sentence).changes("ZADD z NX 1 a 2 a", ":1|").answers("ZSCORE z a", "$1|1|");
    }

    private static void xx() {
        String sentence = "XX those there alone";
        says(sentence, "ZADD z 1 a").keepsAll("ZADD z XX 2 b", ":0|", "ZADD z XX CH 2 b", ":0|", "ZADD z XX INCR 2 b",
                "$-1|", "ZADD none XX 2 b", ":0|", "ZADD none XX INCR 2 b", "$-1|", "ZADD z XX 1 a", ":0|")
                .changes("ZADD z XX 2 a 3 b", ":0|").changes("ZADD z XX CH 4 a 3 b", ":1|")
                .changes("ZADD z XX INCR 1 a", "$1|5|").answers("ZRANGE z 0 -1 WITHSCORES", "*2|$1|a|$1|5|");
    }

    private static void gt() {
        String sentence = "GT, LT: one that is there only to a greater, lesser score";
        says(sentence, "ZADD z 5 a").keepsAll("ZADD z GT 4 a", ":0|", "ZADD z GT 5 a", ":0|", "ZADD z GT CH 4 a", ":0|",
                "ZADD z GT INCR 0 a", "$-1|", "ZADD z GT INCR -1 a", "$-1|")
                .changes("ZADD z GT 6 a", ":0|").answers("ZSCORE z a", "$1|6|").changes("ZADD z GT CH 7 a 3 b", ":2|")
                .changes("ZADD z GT INCR 1 a", "$1|8|").changes("ZADD z GT INCR -4 c", "$2|-4|")
                .changes("ZADD z GT CH 9 a 8 a 1 b", ":1|").answers("ZRANGE z 0 -1 WITHSCORES",
                "*6|$1|c|$2|-4|$1|b|$1|3|$1|a|$1|9|");
        says(sentence, "ZADD z 5 a").keepsAll("ZADD z LT 6 a", ":0|", "ZADD z LT 5 a", ":0|", "ZADD z LT CH 6 a", ":0|",
                "ZADD z LT INCR 0 a", "$-1|", "ZADD z LT INCR 1 a", "$-1|")
                .changes("ZADD z LT 4 a", ":0|").answers("ZSCORE z a", "$1|4|").changes("ZADD z LT CH 3 a 9 b", ":2|")
                .changes("ZADD z LT INCR -1 a", "$1|2|").changes("ZADD z LT INCR 4 c", "$1|4|")
                .changes("ZADD z LT CH 1 a 2 a 10 b", ":1|").answers("ZRANGE z 0 -1 WITHSCORES",
                "*6|$1|a|$1|1|$1|c|$1|4|$1|b|$1|9|");
        says(sentence, "ZADD z 5 a").keepsAll("ZADD z XX GT 4 a 9 b", ":0|", "ZADD z LT XX 6 a 1 b", ":0|")
                .changes("ZADD z XX GT CH 6 a 9 b", ":1|").changes("ZADD z CH LT XX 3 a 1 b", ":1|")
                .answers("ZRANGE z 0 -1 WITHSCORES", "*2|$1|a|$1|3|");
        says(sentence, "ZADD z " + MOST + " m " + LEAST + " l").keepsAll("ZADD z GT " + LEAST + " m", ":0|",
                "ZADD z LT " + MOST + " l", ":0|").changes("ZADD z GT CH " + MOST + " l", ":1|")
                .changes("ZADD z LT CH " + LEAST + " m", ":1|");
    }

    private static void nxWithThese() {
        says("(NX with these: -ERR syntax)", "ZADD z 1 a").keepsAll("ZADD z NX GT 2 b", "-ERR syntax|",
                "ZADD z NX LT 2 b", "-ERR syntax|", "ZADD z GT NX 2 b", "-ERR syntax|", "ZADD z LT NX 2 b",
                "-ERR syntax|",
                "ZADD z NX XX 2 b", "-ERR syntax|", "ZADD z XX NX 2 b", "-ERR syntax|", "ZADD z NX CH GT 2 b",
                "-ERR syntax|", "ZADD z NX INCR LT 2 b", "-ERR syntax|");
    }

    private static void answersOfZadd() {
        String sentence = "new members (CH: and changed scores)";
        says(sentence).changes("ZADD z 1 a 2 b 1 a", ":2|").changes("ZADD z 5 a 6 b", ":0|")
                .changes("ZADD z CH 7 a 6 b 8 c", ":2|").changes("ZADD z 7 a 9 d", ":1|")
                .changes("ZADD z ch 1 a 2 b 3 e", ":3|")
                .keepsAll("ZADD z CH 1 a", ":0|", "ZADD z 1 a 2 b 3 e", ":0|").totals(1, 65 + 5 * 49, 0);
    }

    private static void flagsAsLongAsTheyCome() {
        String sentence = "words of these six are such as long as they come";
        says(sentence).changes("ZADD z 1 NX", ":1|").changes("ZADD z 2 CH 3 INCR 4 GT", ":3|").answers("ZRANGE z 0 -1",
                "*4|$2|NX|$2|CH|$4|INCR|$2|GT|")
                .keepsAll("ZADD z 1 a XX 2", "-ERR integer|", "ZADD z 1 a NX b", "-ERR integer|", "ZADD z NX",
                "-ERR arity|", "ZADD z NX CH", "-ERR syntax|", "ZADD z NX CH INCR", "-ERR syntax|",
                        "ZADD z CH 1", "-ERR syntax|", "ZADD z NXX 1 a", "-ERR syntax|", "ZADD z FOO a",
                        "-ERR integer|", "ZADD z CH FOO a", "-ERR integer|")
                .changes("ZADD z CH XX GT INCR 5 NX", "$1|6|").changes("ZADD z incr ch nx 5 new", "$1|5|")
                .changes("ZADD z Ch Nx 1 CH 1 other", ":1|");
    }

    private static void zaddSyntax() {
        String sentence = "one twice, GT with LT, INCR with more than one pair, no whole pairs: -ERR syntax";
        Scene scene = says(sentence, "ZADD z 1 a");
        for (String word : new String[] {"NX", "XX", "GT", "LT", "CH", "INCR"}) {
            scene.keeps("ZADD z " + word + " " + word + " 2 a", "-ERR syntax|").keeps("ZADD z " + word
                    + " " + word.toLowerCase() + " 2 b", "-ERR syntax|");
        }
        scene.keepsAll("ZADD z CH XX CH 2 a", "-ERR syntax|", "ZADD z GT LT 2 a", "-ERR syntax|", "ZADD z LT GT 2 a",
                "-ERR syntax|", "ZADD z LT XX GT 2 a", "-ERR syntax|", "ZADD z INCR 1 a 2 b", "-ERR syntax|",
                "ZADD z INCR 1 a 2", "-ERR syntax|", "ZADD z INCR 1 a 2 b 3 c", "-ERR syntax|", "ZADD z INCR 1",
                "-ERR syntax|", "ZADD z CH 2", "-ERR syntax|", "ZADD z 2 a 3", "-ERR syntax|",
                "ZADD z 2 a 3 b 4", "-ERR syntax|", "ZADD z CH 2 a 3", "-ERR syntax|", "ZADD none 2 a 3",
                "-ERR syntax|", "ZADD z CH INCR", "-ERR syntax|");
        scene.changes("ZADD z INCR 1 a", "$1|2|").changes("ZADD z CH 5 a 6 b", ":2|");
    }

    private static void pairsInOrder() {
        String sentence = "pairs are done in order";
        says(sentence).changes("ZADD z 1 a 2 a 3 a", ":1|").answers("ZSCORE z a", "$1|3|")
                .changes("ZADD z CH 4 a 5 a 5 a", ":2|").changes("ZADD z GT CH 6 a 1 a 7 a", ":2|")
                .answers("ZSCORE z a", "$1|7|")
                .changes("ZADD z NX 1 b 2 b", ":1|").answers("ZSCORE z b", "$1|1|").changes("ZADD z LT CH 9 c 8 c 10 c",
                ":2|").answers("ZSCORE z c", "$1|8|");
        says(sentence).keeps("ZADD z 1 a x b", "-ERR integer|");
    }

    private static void incr() {
        String sentence = "INCR: the score grows by i: the score or NIL when it is not done (-ERR overflow)";
        says(sentence).changes("ZADD z INCR 5 a", "$1|5|").changes("ZADD z INCR -7 a", "$2|-2|")
                .keeps("ZADD z INCR 0 a", "$2|-2|").changes("ZADD z INCR 0 b", "$1|0|").changes("ZADD z CH INCR 1 b",
                "$1|1|")
                .keepsAll("ZADD z NX INCR 1 b", "$-1|", "ZADD z XX INCR 1 c", "$-1|", "ZADD z GT INCR 0 b", "$-1|",
                "ZADD z LT INCR 0 b", "$-1|");
        says(sentence, "ZADD z " + MOST + " m " + LEAST + " l").keepsAll("ZADD z INCR 1 m", "-ERR overflow|",
                "ZADD z INCR -1 l", "-ERR overflow|", "ZADD z XX INCR " + MOST + " m", "-ERR overflow|",
                "ZADD z INCR " + LEAST + " l", "-ERR overflow|", "ZADD z GT INCR 1 m", "-ERR overflow|",
                "ZADD z LT INCR -1 l", "-ERR overflow|", "ZADD z NX INCR 1 m", "$-1|")
                .changes("ZADD z INCR " + LEAST + " m", "$2|-1|").changes("ZADD z INCR " + MOST + " l", "$2|-1|")
                .changes("ZADD z INCR " + LEAST + " n", "$20|" + LEAST + "|");
    }

    private static void zrem() {
        says("ZREM k m ...", "ZADD z 1 a 2 b 3 c").changes("ZREM z a none a", ":1|").keepsAll("ZREM z a", ":0|",
                "ZREM none a", ":0|").changes("ZREM z c b", ":2|").totals(0, 0, 0);
    }

    private static void zscore() {
        says("ZSCORE k m: a word or NIL", "ZADD z -5 a 0 ''").keepsAll("ZSCORE z a", "$2|-5|", "ZSCORE z ''", "$1|0|",
                "ZSCORE z none", "$-1|", "ZSCORE none a", "$-1|");
    }

    private static void zincrby() {
        String sentence = "ZINCRBY k i m: a word";
        says(sentence).changes("ZINCRBY z 5 a", "$1|5|").changes("ZINCRBY z -15 a", "$3|-10|").keeps("ZINCRBY z 0 a",
                "$3|-10|").changes("ZINCRBY z 0 b", "$1|0|").answers("ZRANGE z 0 -1", "*2|$1|a|$1|b|");
        says(sentence, "ZADD z " + MOST + " m " + LEAST + " l").keepsAll("ZINCRBY z 1 m", "-ERR overflow|",
                "ZINCRBY z -1 l", "-ERR overflow|", "ZINCRBY z 0 m", "$19|" + MOST + "|")
                .changes("ZINCRBY z -1 m", "$19|9223372036854775806|").changes("ZINCRBY z 1 m", "$19|" + MOST + "|")
                .changes("ZINCRBY z " + LEAST + " new", "$20|" + LEAST + "|");
    }

    private static void zcard() {
        says("ZCARD k", "ZADD z 1 a 2 b").keepsAll("ZCARD z", ":2|", "ZCARD none", ":0|");
    }

    private static void ranks() {
        says("ZRANK, ZREVRANK k m: from 0, or NIL", "ZADD z 2 b 1 c 2 a 9 d").keepsAll("ZRANK z c", ":0|", "ZRANK z a",
                ":1|", "ZRANK z b", ":2|", "ZRANK z d", ":3|", "ZREVRANK z d", ":0|", "ZREVRANK z b", ":1|",
                "ZREVRANK z a", ":2|", "ZREVRANK z c", ":3|", "ZRANK z none", "$-1|", "ZREVRANK z none", "$-1|",
                "ZRANK none a", "$-1|", "ZREVRANK none a", "$-1|");
    }

    private static void ranges() {
        String sentence = "ZRANGE, ZREVRANGE k i j [WITHSCORES] (ZREVRANGE from the greatest on)";
        says(sentence, "ZADD z 2 b 1 c 2 a 9 d").keepsAll("ZRANGE z 0 -1", "*4|$1|c|$1|a|$1|b|$1|d|",
                "ZREVRANGE z 0 -1", "*4|$1|d|$1|b|$1|a|$1|c|", "ZRANGE z 0 0", "*1|$1|c|", "ZREVRANGE z 0 0",
                "*1|$1|d|",
                "ZRANGE z 3 3", "*1|$1|d|", "ZREVRANGE z 3 3", "*1|$1|c|", "ZRANGE z 4 4", "*0|", "ZREVRANGE z 4 4",
                "*0|", "ZRANGE z 3 9", "*1|$1|d|", "ZREVRANGE z 3 9", "*1|$1|c|", "ZRANGE z -2 -1", "*2|$1|b|$1|d|",
                "ZREVRANGE z -2 -1", "*2|$1|a|$1|c|", "ZRANGE z -9 -4", "*1|$1|c|", "ZREVRANGE z -9 -4", "*1|$1|d|",
                "ZRANGE z -9 -5", "*0|", "ZREVRANGE z -9 -5", "*0|", "ZRANGE z 2 1", "*0|", "ZREVRANGE z 2 1", "*0|",
                "ZRANGE z " + LEAST + " " + MOST, "*4|$1|c|$1|a|$1|b|$1|d|", "ZREVRANGE z " + LEAST + " " + MOST,
                "*4|$1|d|$1|b|$1|a|$1|c|", "ZRANGE z 1 2 WITHSCORES", "*4|$1|a|$1|2|$1|b|$1|2|",
                "ZREVRANGE z 0 1 withScores", "*4|$1|d|$1|9|$1|b|$1|2|", "ZRANGE z 0 1 SCORES", "-ERR syntax|",
                "ZREVRANGE z 0 1 WITHSCORES WITHSCORES", "-ERR syntax|", "ZRANGE none 0 -1 WITHSCORES", "*0|");
    }

    private static void scoreRanges() {
        String sentence = "ZRANGEBYSCORE k lo hi [WITHSCORES] [LIMIT i n] (these in any order, none twice; i below 0: "
                + "nothing; n below 0: all), ZREVRANGEBYSCORE k hi lo likewise";
        Scene scene = says(sentence, "ZADD z 1 a 2 b 2 c 3 d 5 e");
        scene.keepsAll("ZRANGEBYSCORE z 2 3", "*3|$1|b|$1|c|$1|d|", "ZREVRANGEBYSCORE z 3 2", "*3|$1|d|$1|c|$1|b|",
                "ZRANGEBYSCORE z 3 2", "*0|", "ZREVRANGEBYSCORE z 2 3", "*0|", "ZRANGEBYSCORE z 4 4", "*0|",
                "ZRANGEBYSCORE z 5 5", "*1|$1|e|", "ZRANGEBYSCORE z 6 9", "*0|", "ZRANGEBYSCORE z -9 0", "*0|",
                "ZRANGEBYSCORE z 2 3 WITHSCORES", "*6|$1|b|$1|2|$1|c|$1|2|$1|d|$1|3|",
                "ZRANGEBYSCORE z 1 5 LIMIT 0 2", "*2|$1|a|$1|b|", "ZRANGEBYSCORE z 1 5 LIMIT 1 2", "*2|$1|b|$1|c|",
                "ZRANGEBYSCORE z 1 5 LIMIT 4 2", "*1|$1|e|", "ZRANGEBYSCORE z 1 5 LIMIT 5 2", "*0|",
                "ZRANGEBYSCORE z 1 5 LIMIT 0 0", "*0|", "ZRANGEBYSCORE z 1 5 LIMIT -1 2", "*0|",
                "ZRANGEBYSCORE z 1 5 LIMIT -1 -1", "*0|", "ZRANGEBYSCORE z 1 5 LIMIT " + LEAST + " 5", "*0|",
                "ZRANGEBYSCORE z 1 5 LIMIT 0 -1", "*5|$1|a|$1|b|$1|c|$1|d|$1|e|", "ZRANGEBYSCORE z 1 5 LIMIT 3 -9",
                "*2|$1|d|$1|e|", "ZRANGEBYSCORE z 1 5 LIMIT 3 " + LEAST, "*2|$1|d|$1|e|",
                "ZRANGEBYSCORE z 1 5 LIMIT " + MOST + " " + MOST, "*0|", "ZRANGEBYSCORE z 1 5 LIMIT 1 " + MOST,
                "*4|$1|b|$1|c|$1|d|$1|e|", "ZRANGEBYSCORE z 1 5 LIMIT 4294967296 1", "*0|",
                "ZREVRANGEBYSCORE z 5 1 LIMIT 0 2", "*2|$1|e|$1|d|", "ZREVRANGEBYSCORE z 5 1 LIMIT 3 9",
                "*2|$1|b|$1|a|", "ZREVRANGEBYSCORE z 5 1 LIMIT 5 9", "*0|", "ZREVRANGEBYSCORE z 5 1 LIMIT -1 9", "*0|",
                "ZREVRANGEBYSCORE z 5 1 LIMIT 3 -1", "*2|$1|b|$1|a|", "ZREVRANGEBYSCORE z 5 1 LIMIT 0 0", "*0|",
                "ZREVRANGEBYSCORE z 5 1 LIMIT 1 1 WITHSCORES", "*2|$1|d|$1|3|");
        for (String name : new String[] {"ZRANGEBYSCORE z 1 5 ", "ZREVRANGEBYSCORE z 5 1 "}) {
            String first = name.contains("REV") ? "*2|$1|d|$1|3|" : "*2|$1|b|$1|2|";
            scene.keepsAll(name + "LIMIT 1 1 WITHSCORES", first, name + "WITHSCORES LIMIT 1 1", first, name
                    + "withscores limit 1 1", first, name + "WITHSCORES WITHSCORES", "-ERR syntax|",
                    name + "LIMIT 1 1 LIMIT 1 1", "-ERR syntax|", name + "WITHSCORES LIMIT 1 1 WITHSCORES",
                    "-ERR syntax|", name + "LIMIT 1 1 WITHSCORES LIMIT 1 1", "-ERR syntax|", name + "LIMIT",
                    "-ERR syntax|",
                    name + "LIMIT 1", "-ERR syntax|", name + "WITHSCORES LIMIT 1", "-ERR syntax|", name + "LIMIT x",
                    "-ERR syntax|", name + "1 1", "-ERR syntax|", name + "''", "-ERR syntax|",
                    name + "LIMIT 1 WITHSCORES", "-ERR integer|");
        }
    }

    private static void zcount() {
        says("ZCOUNT k lo hi", "ZADD z 1 a 2 b 2 c 3 d 5 e").keepsAll("ZCOUNT z 1 5", ":5|", "ZCOUNT z 2 2", ":2|",
                "ZCOUNT z 4 4", ":0|", "ZCOUNT z (1 (5", ":3|", "ZCOUNT z -inf +inf", ":5|", "ZCOUNT z 5 1", ":0|",
                "ZCOUNT z (2 2", ":0|", "ZCOUNT z 2 (2", ":0|", "ZCOUNT none 1 5", ":0|");
    }

    private static void removedRanges() {
        String sentence = "ZREMRANGEBYRANK k i j, ZREMRANGEBYSCORE k lo hi: how many";
        String[] ranks = {"0 0", ":1|", "*3|$1|b|$1|c|$1|d|", "-1 -1", ":1|", "*3|$1|a|$1|b|$1|c|", "1 2", ":2|",
            "*2|$1|a|$1|d|", "3 9", ":1|", "*3|$1|a|$1|b|$1|c|", "-9 1", ":2|", "*2|$1|c|$1|d|",
            LEAST + " " + MOST, ":4|", "*0|"};
        for (int i = 0; i < ranks.length; i += 3) {
            says(sentence, "ZADD z 2 b 1 a 5 d 2 c").changes("ZREMRANGEBYRANK z " + ranks[i], ranks[i + 1])
                    .answers("ZRANGE z 0 -1", ranks[i + 2]);
        }
        String[] scores = {"1 1", ":1|", "*3|$1|b|$1|c|$1|d|", "2 2", ":2|", "*2|$1|a|$1|d|", "(1 5", ":3|", "*1|$1|a|",
            "(1 (5", ":2|", "*2|$1|a|$1|d|", "-inf 2", ":3|", "*1|$1|d|", "(2 +inf", ":1|",
            "*3|$1|a|$1|b|$1|c|", "-inf +inf", ":4|", "*0|"};
        for (int i = 0; i < scores.length; i += 3) {
            says(sentence, "ZADD z 2 b 1 a 5 d 2 c").changes("ZREMRANGEBYSCORE z " + scores[i], scores[i + 1])
                    .answers("ZRANGE z 0 -1", scores[i + 2]);
        }
        says(sentence, "ZADD z 2 b 1 a 5 d 2 c").keepsAll("ZREMRANGEBYRANK z 4 9", ":0|", "ZREMRANGEBYRANK z 2 1",
                ":0|", "ZREMRANGEBYRANK z -9 -5", ":0|", "ZREMRANGEBYSCORE z 3 4", ":0|", "ZREMRANGEBYSCORE z 5 1",
                ":0|",
                "ZREMRANGEBYSCORE z (5 +inf", ":0|", "ZREMRANGEBYSCORE z +inf -inf", ":0|", "ZREMRANGEBYRANK none 0 -1",
                ":0|", "ZREMRANGEBYSCORE none 1 5", ":0|");
    }

    private static void pops() {
        String sentence = "ZPOPMIN, ZPOPMAX k [n] (1; below 0: -ERR range): a row of members and scores";
        says(sentence, "ZADD z 2 b 1 a 5 d 2 c 7 e 8 f").changes("ZPOPMIN z", "*2|$1|a|$1|1|").changes("ZPOPMAX z",
                "*2|$1|f|$1|8|").changes("ZPOPMAX z 1", "*2|$1|e|$1|7|").keepsAll("ZPOPMIN z 0", "*0|", "ZPOPMAX z 0",
                "*0|",
                "ZPOPMIN z -1", "-ERR range|", "ZPOPMAX z -1", "-ERR range|", "ZPOPMIN z " + LEAST, "-ERR range|",
                "ZPOPMIN none -1", "-ERR range|").changes("ZPOPMAX z 2", "*4|$1|d|$1|5|$1|c|$1|2|")
                .changes("ZPOPMIN z " + MOST, "*2|$1|b|$1|2|").keepsAll("ZPOPMIN z", "*0|", "ZPOPMAX z", "*0|",
                "ZPOPMIN z 5", "*0|", "ZPOPMAX z 0", "*0|");
        says(sentence, "ZADD z 1 a 1 b").changes("ZPOPMAX z", "*2|$1|b|$1|1|").changes("ZPOPMAX z 4294967297",
                "*2|$1|a|$1|1|");
    }

    private static void bounds() {
        String sentence = "A bound lo, hi: an integer, ( and one (it itself is out), -inf, +inf; else -ERR bound (in "
                + "the place of -ERR integer)";
        says(sentence, "ZADD z -1 m 0 n 1 a 2 b " + MOST + " u " + LEAST + " l").keepsAll("ZRANGEBYSCORE z 1 2",
                "*2|$1|a|$1|b|", "ZRANGEBYSCORE z (1 2", "*1|$1|b|", "ZRANGEBYSCORE z 1 (2", "*1|$1|a|",
                "ZRANGEBYSCORE z (1 (2", "*0|", "ZRANGEBYSCORE z (0 (2", "*1|$1|a|", "ZRANGEBYSCORE z (-1 0",
                "*1|$1|n|", "ZRANGEBYSCORE z -inf (0", "*2|$1|l|$1|m|", "ZRANGEBYSCORE z (1 +inf", "*2|$1|b|$1|u|",
                "ZRANGEBYSCORE z +inf +inf", "*0|", "ZRANGEBYSCORE z -inf -inf", "*0|", "ZRANGEBYSCORE z " + MOST
                + " +inf", "*1|$1|u|", "ZRANGEBYSCORE z (" + MOST + " +inf", "*0|",
                "ZRANGEBYSCORE z -inf " + LEAST, "*1|$1|l|", "ZRANGEBYSCORE z -inf (" + LEAST, "*0|",
                "ZRANGEBYSCORE z (" + LEAST + " (" + MOST, "*4|$1|m|$1|n|$1|a|$1|b|",
                "ZREVRANGEBYSCORE z (2 (-1", "*2|$1|a|$1|n|", "ZREVRANGEBYSCORE z +inf (1", "*2|$1|u|$1|b|",
                "ZREVRANGEBYSCORE z (0 -inf", "*2|$1|m|$1|l|");
        String[] bad = {"''", "(", "((1", "(x", "x", "(''", "inf", "(inf", "(+inf", "(-inf", "-infx", "+in", "infinity",
            "+1", "01", "(01", "-0", "(-0", "1(", "1)", "[1", "1.5", "(1.5", "9223372036854775808",
            "(9223372036854775808", "-9223372036854775809", "-", "(-", "-(1", "nan"};
        Scene scene = says(sentence, "ZADD z 1 a 2 b", "SET t v");
        for (String bound : bad) {
            for (String form : new String[] {"ZRANGEBYSCORE z # 2", "ZRANGEBYSCORE z 1 #", "ZREVRANGEBYSCORE z # 1",
                "ZREVRANGEBYSCORE z 2 #", "ZCOUNT z # 2", "ZCOUNT z 1 #", "ZREMRANGEBYSCORE z # 2",
                "ZREMRANGEBYSCORE z 1 #", "ZCOUNT none 1 #", "ZCOUNT t 1 #",
                "ZRANGEBYSCORE t # # LIMIT x y WITHSCORES"}) {
                scene.keeps(form.replace("#", bound), "-ERR bound|");
            }
        }
    }

    public static void main(String[] args) {
        order();
        manyMembers();
        nx();
        xx();
        gt();
        nxWithThese();
        answersOfZadd();
        flagsAsLongAsTheyCome();
        zaddSyntax();
        pairsInOrder();
        incr();
        zrem();
        zscore();
        zincrby();
        zcard();
        ranks();
        ranges();
        scoreRanges();
        zcount();
        removedRanges();
        pops();
        bounds();
        CHECK.end();
    }
}
