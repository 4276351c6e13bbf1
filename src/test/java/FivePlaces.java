/** Five places at which the document's words must be held together to tell what is due. */
public final class FivePlaces {
    private static final Check CHECK = new Check();
    private static final String MOST = "9223372036854775807";
    private static final String LEAST = "-9223372036854775808";

    private static Scene says(String sentence, String... setup) {
        return new Scene(CHECK, sentence, setup);
    }

    /**
     * b is not among the letters that stand for integers, so that all that is not 0 or 1 is -ERR range; i is one, and
     * -ERR integer comes ahead of -ERR range.
     */
    private static void setbit() {
        String sentence = "(-ERR range: i below 0 or above 131071, b not 0 or 1)";
        String[] others = {"2", "-1", "10", "x", "''", "01", "00", "-0", "+1", "1.0", "1x", MOST, LEAST,
            "9223372036854775808", "256", "257", "4294967297"};
        Scene scene = says(sentence, "SET t a", "RPUSH l a");
        for (String b : others) {
            for (String key : new String[] {"t", "l", "none"}) {
                scene.keepsAll("SETBIT " + key + " 0 " + b, "-ERR range|", "SETBIT " + key + " 131071 " + b,
                        "-ERR range|", "SETBIT " + key + " 131072 " + b, "-ERR range|",
                        "SETBIT " + key + " -1 " + b, "-ERR range|", "SETBIT " + key + " x " + b, "-ERR integer|",
                        "SETBIT " + key + " 01 " + b, "-ERR integer|");
            }
        }
        scene.keepsAll("SETBIT t x 0", "-ERR integer|", "SETBIT t '' 1", "-ERR integer|", "SETBIT t -1 0",
                "-ERR range|", "SETBIT t 131072 1", "-ERR range|", "SETBIT l 0 1", "-WRONGTYPE|")
                .changes("SETBIT t 0 0", ":0|").changes("SETBIT t 0 1", ":0|").changes("SETBIT t 131071 1", ":0|");
    }

    /** -inf and +inf are words that stand for themselves; ( has an integer behind it, which they are none. */
    private static void bounds() {
        String sentence = "A bound lo, hi: an integer, ( and one (it itself is out), -inf, +inf; else -ERR bound";
        Scene scene = says(sentence, "ZADD z 1 a 2 b 3 c");
        for (String least : new String[] {"-inf", "-INF", "-Inf", "-iNf"}) {
            for (String most : new String[] {"+inf", "+INF", "+Inf", "+inF"}) {
                scene.keepsAll("ZCOUNT z " + least + " " + most, ":3|", "ZRANGEBYSCORE z " + least + " " + most
                        + " LIMIT 0 1", "*1|$1|a|", "ZREVRANGEBYSCORE z " + most + " " + least + " LIMIT 0 1",
                        "*1|$1|c|",
                        "ZCOUNT z " + most + " " + least, ":0|", "ZREMRANGEBYSCORE z " + most + " " + least, ":0|");
            }
            says(sentence, "ZADD z 1 a 2 b 3 c").changes("ZREMRANGEBYSCORE z " + least + " (3", ":2|")
                    .answers("ZRANGE z 0 -1", "*1|$1|c|");
        }
        for (String bad : new String[] {"inf", "INF", "(-inf", "(+inf", "(inf", "(INF", "--inf", "-inf(", "-infinity",
            "-in", "+", "-"}) {
            scene.keepsAll("ZCOUNT z " + bad + " 5", "-ERR bound|", "ZCOUNT z 1 " + bad, "-ERR bound|",
                    "ZRANGEBYSCORE z " + bad + " 5", "-ERR bound|", "ZREVRANGEBYSCORE z 5 " + bad, "-ERR bound|",
                    "ZREMRANGEBYSCORE z " + bad + " +inf", "-ERR bound|");
        }
    }

    /**
     * NX and XX look at the member alone. GT and LT look at the score that comes: scores are integers, and those are
     * within 64 bits, so a sum beyond is no score that could be greater or lesser, whichever of the two is told.
     */
    private static void zaddIncr() {
        String sentence = "INCR: the score grows by i: the score or NIL when it is not done (-ERR overflow)";
        Scene scene = says(sentence, "ZADD z " + MOST + " m " + LEAST + " l 5 a");
        scene.keepsAll("ZADD z NX INCR 1 m", "$-1|", "ZADD z NX INCR -1 l", "$-1|", "ZADD z NX INCR 1 a", "$-1|",
                "ZADD z XX INCR " + MOST + " none", "$-1|", "ZADD none XX INCR 1 m", "$-1|",
                "ZADD z INCR 1 m", "-ERR overflow|", "ZADD z INCR -1 l", "-ERR overflow|", "ZADD z XX INCR 1 m",
                "-ERR overflow|", "ZADD z GT INCR 1 m", "-ERR overflow|", "ZADD z LT INCR 1 m", "-ERR overflow|",
                "ZADD z LT INCR -1 l", "-ERR overflow|", "ZADD z GT INCR -1 l", "-ERR overflow|", "ZADD z GT INCR 0 m",
                "$-1|", "ZADD z LT INCR 0 m", "$-1|", "ZADD z GT INCR -1 m", "$-1|", "ZADD z LT INCR 1 l", "$-1|",
                "ZADD z GT INCR 0 a", "$-1|", "ZADD z LT INCR 0 a", "$-1|", "ZADD z INCR 0 a", "$1|5|");
        scene.changes("ZADD z GT INCR 1 a", "$1|6|").changes("ZADD z LT INCR -1 a", "$1|5|")
                .changes("ZADD z XX GT INCR 2 a", "$1|7|").changes("ZADD z NX INCR -3 new", "$2|-3|")
                .changes("ZADD z GT INCR -3 n2", "$2|-3|")
                .changes("ZADD z LT INCR 3 n3", "$1|3|").changes("ZADD z INCR 0 n4", "$1|0|")
                .changes("ZADD z CH INCR " + LEAST + " m", "$2|-1|");
    }

    /** Each pair is done when its turn comes, so a score that a later pair changes back was changed all the same. */
    private static void zaddChanged() {
        says("pairs are done in order", "ZADD z 1 a 2 b").changes("ZADD z 5 a 1 a", ":0|").answers("ZSCORE z a",
                "$1|1|").changes("ZADD z CH 5 a 1 a", ":2|").changes("ZADD z CH 5 a 5 a 1 a 1 a", ":2|")
                .changes("ZADD z XX CH 5 a 1 a", ":2|");
        says("ZADD, ZINCRBY that leave all scores and add nothing", "ZADD z 1 a 2 b").keepsAll("ZADD z 1 a 2 b", ":0|",
                "ZADD z CH 1 a 1 a", ":0|", "ZADD z NX 5 a 1 a", ":0|",
                "ZADD z GT CH 1 a 0 a", ":0|", "ZADD z LT CH 1 a 9 a", ":0|", "ZADD z XX 1 a 9 none", ":0|",
                "ZADD z INCR 0 a", "$1|1|", "ZINCRBY z 0 a", "$1|1|", "ZADD none XX 1 a", ":0|")
                .changes("ZADD z 1 a 2 b 3 c", ":1|").changes("ZADD z 1 a 3 b", ":0|").changes("ZINCRBY z 0 new",
                "$1|0|").changes("ZADD z GT CH 1 a 2 a 1 a", ":1|").answers("ZSCORE z a", "$1|2|");
    }

    private static void fault(String bytes, String word) {
        Scene scene = says("fault " + word);
        scene.comes(0, bytes.substring(0, bytes.length() - 1), 0, "").isOpen(0, true).comes(0,
                bytes.substring(bytes.length() - 1), 0, "-ERR protocol: " + word + "|").isOpen(0, false);
    }

    /** Whatever is wrong with a LINE: of * it is fault count, of $ fault length, when its CR LF or 16 bytes came. */
    private static void lines() {
        for (String bad : new String[] {"\r\n", "-\r\n", "x\r\n", "1x\r\n", " 1\r\n", "+1\r\n", "0000001\r\n",
            "-0000001\r\n", "999999\r\n", "1\r1\r\n", "123456789012\r\n", "1234567890123\r\n", "12345678901234\r",
            "123456789012345", "1\n1234567890123", "\r\r\n"}) {
            fault("*" + bad, "count");
            fault("*1\r\n$" + bad, "length");
            fault("*2\r\n$4\r\nECHO\r\n$" + bad, "length");
            fault("*0\r\n*" + bad, "count");
        }
        fault("*1025\r\n", "count");
        fault("*1\r\n$-1\r\n", "length");
        fault("*1\r\n$16385\r\n", "length");
        says("With a number 0 or below for * there are no words").comes(0, "*-999999\r\n*-1\r\n*-0\r\n*0\r\nPING\n", 1,
                "+PONG|").isOpen(0, true);
        says("below 0 or above 16384").comes(0, "*2\r\n$4\r\nECHO\r\n$-0\r\n\r\n", 1, "$0||").isOpen(0, true);
        says("the number 1 to 6 digits").comes(0, "*000002\r\n$000004\r\nECHO\r\n$-000000\r\n\r\n", 1, "$0||").isOpen(0,
                true);
    }

    public static void main(String[] args) {
        setbit();
        bounds();
        zaddIncr();
        zaddChanged();
        lines();
        CHECK.end();
    }
}
