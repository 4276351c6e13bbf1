import java.util.ArrayList;
import java.util.List;
import java.util.Random;

/** Requests by chance, most of them right, some of them wrong in one place. */
final class Chance {
    private static final String[] SHAPES = {
        "GET t", "GET t", "SET t v S", "SET t v S", "SET t v", "GETDEL t", "GETSET t v", "SETNX t v", "SETEX t i v",
        "PSETEX t i v", "MGET k k k", "MSET t v t v", "MSETNX k v k v", "APPEND t v", "STRLEN t", "GETRANGE t i i",
        "SETRANGE t i v", "INCR t", "DECR t", "INCRBY t i", "DECRBY t i", "SETBIT t i b", "GETBIT t i", "BITCOUNT t",
        "BITCOUNT t i i", "DEL k", "DEL k k", "EXISTS k k k", "TYPE k", "RENAME k k", "RENAMENX k k", "KEYS p",
        "DBSIZE", "EXPIRE k i", "PEXPIRE k i", "EXPIREAT k i", "PEXPIREAT k i", "PERSIST k", "TTL k",
        "PTTL k", "LPUSH l v v v", "RPUSH l v v", "LPUSHX l v", "RPUSHX l v v", "LPOP l", "RPOP l", "LPOP l i",
        "RPOP l i", "LLEN l", "LRANGE l i i", "LINDEX l i", "LSET l i v", "LINSERT l w v v", "LREM l i v",
        "LTRIM l i i", "LMOVE l l e e", "RPOPLPUSH l l", "HSET h v v v v", "HSET h v i", "HSETNX h v v", "HGET h v",
        "HMGET h v v", "HDEL h v v", "HEXISTS h v", "HLEN h", "HSTRLEN h v", "HKEYS h", "HVALS h", "HGETALL h",
        "HINCRBY h v i", "SADD s v v v", "SADD s v", "SREM s v v", "SISMEMBER s v", "SMISMEMBER s v v", "SCARD s",
        "SMEMBERS s", "SMOVE s s v", "SINTER s s", "SUNION s s s", "SDIFF s s", "SINTERSTORE s s s",
        "SUNIONSTORE k s s", "SDIFFSTORE s s s", "SPOP s", "ZADD z i v", "ZADD z i v i v i v", "ZADD z f i v",
        "ZADD z f f i v", "ZADD z f f i v i v", "ZADD z f f f i v", "ZREM z v v", "ZSCORE z v", "ZINCRBY z i v",
        "ZCARD z", "ZRANK z v", "ZREVRANK z v", "ZRANGE z i i", "ZREVRANGE z i i W", "ZRANGE z i i W",
        "ZRANGEBYSCORE z o o", "ZRANGEBYSCORE z o o W L i i", "ZREVRANGEBYSCORE z o o L i i W",
        "ZREVRANGEBYSCORE z o o", "ZCOUNT z o o", "ZREMRANGEBYRANK z i i", "ZREMRANGEBYSCORE z o o", "ZPOPMIN z",
        "ZPOPMAX z", "ZPOPMIN z i", "ZPOPMAX z i", "PING", "PING v", "ECHO v", "WATCH k k", "WATCH k", "UNWATCH",
        "MULTI", "MULTI", "EXEC", "EXEC", "EXEC", "DISCARD", "PUBLISH c v", "PUBLISH c v", "TIME"};

    private static final String[] NUMBERS = {
        "0", "1", "-1", "2", "-2", "3", "-3", "5", "7", "10", "100", "-100", "1000", "0", "1", "2", "3", "1", "2"};
    private static final String[] STRANGE_NUMBERS = {
        "9223372036854775807", "-9223372036854775808", "9223372036854775808", "-9223372036854775809", "01", "-0", "+1",
        "x", "", "9007199254740991", "9007199254740992", "-9007199254740991", "-9007199254740992", "131071", "131072",
        "16384", "16383", "9007199254741", "9007199254740", "4611686018427387904", "-", "1 ", "99999999999999999999"};
    private static final String[] WORDS = {"", "x", "y", "z", "xx", "xy", "10", "-5", "a b", "\r\n", "\0", "\u00ff", "abcdef",
        "9223372036854775807", "NX", "x", "y", "z", "q", "r", "s"};
    private static final String[] PATTERNS = {"*", "?", "*1", "t*", "[a-z]?", "[^tlh]*", "[t\\]s]1", "[z-a]*", "\\*",
        "t[1-", "[]", "[^]1", "[^", "*[12]*", "[h-l][\\1-\\2]", "t1\\", "\\t1", "[t-]1", "[-t]1", "**", "", "k\\", "?[", "*\\"};

    private static final String[] LARGE_SHAPES = {
        "SETBIT t n b", "SETBIT t n b", "SETRANGE t n v", "APPEND t x", "APPEND t x", "SET t x", "SET t v", "GETSET t x",
        "GET t", "GETDEL t", "DEL t", "DEL k", "RENAME t t", "RENAME k k", "MSET t x t v t x", "BITCOUNT t", "INCR t",
        "RPUSH l x*", "LPUSH l x*", "LTRIM l i n", "LRANGE l i n", "LPOP l n", "LMOVE l l e e", "LSET l i x", "LREM l i v",
        "HSET h xx*", "HSET h xx*", "HDEL h x*", "HGETALL h", "HINCRBY h v i", "SADD s x*", "SADD s x*", "SREM s x*",
        "SMEMBERS s", "SUNIONSTORE s s s", "SDIFFSTORE s s s", "SINTERSTORE s s s", "SUNIONSTORE k s", "SMOVE s s v",
        "ZADD z nx*", "ZADD z nx*", "ZREM z x*", "ZRANGE z i i W", "ZREVRANGE z i n W", "ZREMRANGEBYRANK z i i",
        "ZINCRBY z i v", "ZPOPMIN z n", "PEXPIRE k n", "PERSIST k", "DBSIZE", "FLUSHALL"};

    final Random random;
    /** Whether most requests are about long texts and large rows. */
    private final boolean large;

    Chance(long seed, boolean large) {
        random = new Random(seed);
        this.large = large;
    }

    private String of(String[] row) {
        return row[random.nextInt(row.length)];
    }

    boolean in(int n) {
        return random.nextInt(n) == 0;
    }

    private String key(char sort) {
        if (in(12)) {
            return in(3) ? of(WORDS) : "" + "tlhsz".charAt(random.nextInt(5)) + (1 + random.nextInt(2));
        }
        return "" + sort + (1 + random.nextInt(2));
    }

    private String anyKey() {
        return key("tlhsz".charAt(random.nextInt(5)));
    }

    private String letters(String word) {
        StringBuilder all = new StringBuilder();
        for (char ch : word.toCharArray()) {
            all.append(in(4) ? Character.toLowerCase(ch) : ch);
        }
        return all.toString();
    }

    private String number() {
        return in(12) ? of(STRANGE_NUMBERS) : of(NUMBERS);
    }

    private String bound() {
        String number = in(5) ? of(new String[] {"-inf", "+inf", "inf", "-INF"}) : number();
        return in(3) ? "(" + number : number;
    }

    private void options(List<String> words) {
        String[] all = {"NX", "XX", "GET", "KEEPTTL", "EX", "PX", "EXAT", "PXAT", "no"};
        int many = random.nextInt(4);
        for (int i = 0; i < many; i++) {
            String o = of(all);
            words.add(letters(o));
            if (o.length() > 1 && "EX PX EXAT PXAT".contains(o) && !in(20)) {
                words.add(number());
            }
        }
    }

    private void add(List<String> words, String part) {
        switch (part.charAt(0)) {
            case 'k':
                words.add(anyKey());
                break;
            case 'v':
                words.add(in(3) ? of(WORDS) : "" + "xyz".charAt(random.nextInt(3)));
                break;
            case 'i':
                words.add(number());
                break;
            case 'b':
                words.add(in(10) ? "2" : in(2) ? "0" : "1");
                break;
            case 'p':
                words.add(of(PATTERNS));
                break;
            case 'w':
                words.add(letters(in(10) ? "BESIDE" : in(2) ? "BEFORE" : "AFTER"));
                break;
            case 'e':
                words.add(letters(in(10) ? "UP" : in(2) ? "LEFT" : "RIGHT"));
                break;
            case 'f':
                words.add(letters(of(new String[] {"NX", "XX", "GT", "LT", "CH", "INCR"})));
                break;
            case 'o':
                words.add(bound());
                break;
            case 'c':
                words.add("c" + random.nextInt(3));
                break;
            case 'S':
                options(words);
                break;
            case 'W':
                words.add(letters(in(10) ? "SCORES" : "WITHSCORES"));
                break;
            case 'L':
                words.add(letters("LIMIT"));
                break;
            default:
                words.add(key(part.charAt(0)));
                break;
        }
    }

    private int size(int bits) {
        return random.nextInt(1 << random.nextInt(bits));
    }

    private String longWord() {
        int length = in(3) ? size(10) : size(3);
        StringBuilder word = new StringBuilder();
        for (int i = 0; i < length; i++) {
            word.append((char) ('a' + random.nextInt(26)));
        }
        return word.toString();
    }

    /** A part of a large shape; with * behind it a row of them. */
    private void addLarge(List<String> words, String part) {
        boolean rows = part.endsWith("*");
        int many = rows ? 1 + size(8) : 1;
        String kinds = rows ? part.substring(0, part.length() - 1) : part;
        for (int i = 0; i < many; i++) {
            for (char kind : kinds.toCharArray()) {
                if (kind == 'x') {
                    words.add(rows && !in(10) ? "" + random.nextInt(500) : longWord());
                } else if (kind == 'n') {
                    words.add("" + size(words.get(0).equals("SETBIT") ? 18 : 14));
                } else if ("tlhsz".indexOf(kind) >= 0) {
                    words.add("" + kind + random.nextInt(6));
                } else {
                    add(words, "" + kind);
                }
            }
        }
    }

    private List<String> largeWords() {
        String[] parts = of(LARGE_SHAPES).split(" ");
        List<String> words = new ArrayList<>();
        words.add(parts[0]);
        for (int i = 1; i < parts.length; i++) {
            addLarge(words, parts[i]);
        }
        return words;
    }

    /** The words of a request. */
    List<String> words() {
        if (large && !in(5)) {
            return largeWords();
        }
        String[] parts = of(SHAPES).split(" ");
        List<String> words = new ArrayList<>();
        words.add(letters(parts[0]));
        for (int i = 1; i < parts.length; i++) {
            add(words, parts[i]);
        }
        if (in(40) && words.size() > 1) {
            words.remove(words.size() - 1);
        } else if (in(40)) {
            words.add(of(WORDS));
        } else if (in(200)) {
            words.set(0, "NOSUCH");
        } else if (in(100)) {
            words.clear();
            words.add(letters(in(2) ? "SUBSCRIBE" : "UNSUBSCRIBE"));
            for (int i = random.nextInt(3); i >= 0; i--) {
                words.add("c" + random.nextInt(40));
            }
        } else if (in(300)) {
            words.clear();
            words.add(letters("QUIT"));
        } else if (in(400)) {
            words.clear();
            words.add("FLUSHALL");
        } else if (in(60)) {
            words.clear();
            words.add("SETRANGE");
            words.add("big" + random.nextInt(5));
            words.add("" + (16380 + random.nextInt(6)));
            words.add("x");
        }
        return words;
    }

    /** A request as bytes, in one of its two forms. */
    String bytes(List<String> words) {
        boolean plain = words.get(0).charAt(0) != '*';
        int size = 2;
        for (String word : words) {
            plain &= !word.isEmpty() && !word.matches("(?s).*[ \r\n].*");
            size += word.length() + 1;
        }
        if (plain && size < 2000 && in(2)) {
            return String.join(in(8) ? "  " : " ", words) + (in(2) ? "\n" : "\r\n");
        }
        return Client.star(words.toArray(new String[0]));
    }

    String request() {
        return bytes(words());
    }
}
