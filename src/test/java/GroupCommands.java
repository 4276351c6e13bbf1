/** Commands about lists, hashes, sets and orders, with each of their refusals. */
public final class GroupCommands {
    private static final Check CHECK = new Check();

    private static void lists() {
        CHECK.script("LPUSH l a b c", ":3|", "RPUSH l d e", ":5|", "LRANGE l 0 -1", "*5|$1|c|$1|b|$1|a|$1|d|$1|e|",
                "LPUSH l", "-ERR arity|", "RPUSH", "-ERR arity|", "LPUSHX l f", ":6|", "RPUSHX l g h", ":8|",
                "LPUSHX none f", ":0|", "RPUSHX none f", ":0|", "EXISTS none", ":0|", "LLEN l", ":8|", "LLEN none", ":0|",
                "LPOP l", "$1|f|", "RPOP l", "$1|h|", "LPOP none", "$-1|", "LPOP none 2", "*-1|", "RPOP none 0", "*-1|",
                "LPOP l 2", "*2|$1|c|$1|b|", "RPOP l 2", "*2|$1|g|$1|e|", "LPOP l 0", "*0|", "LPOP l -1", "-ERR range|",
                "LPOP none -1", "-ERR range|", "RPOP l x", "-ERR integer|", "LPOP l 1 1", "-ERR arity|", "LPOP", "-ERR arity|",
                "RPOP l 9223372036854775807", "*2|$1|d|$1|a|", "EXISTS l", ":0|", "SET t v", "+OK|",
                "LPUSH t v", "-WRONGTYPE|", "RPUSHX t v", "-WRONGTYPE|", "LPOP t", "-WRONGTYPE|", "RPOP t x", "-ERR integer|",
                "RPOP t 1", "-WRONGTYPE|", "LLEN t", "-WRONGTYPE|", "LLEN", "-ERR arity|");
        CHECK.script("RPUSH l a b c d", ":4|", "LRANGE l 1 2", "*2|$1|b|$1|c|", "LRANGE l -2 10", "*2|$1|c|$1|d|",
                "LRANGE l 3 2", "*0|", "LRANGE l -9 -5", "*0|", "LRANGE none 0 -1", "*0|", "LRANGE l x 1", "-ERR integer|",
                "LRANGE l 1", "-ERR arity|", "LINDEX l 0", "$1|a|", "LINDEX l -1", "$1|d|", "LINDEX l 4", "$-1|", "LINDEX l -5", "$-1|",
                "LINDEX none 0", "$-1|", "LINDEX l -9223372036854775808", "$-1|", "LINDEX l x", "-ERR integer|", "LINDEX l", "-ERR arity|",
                "LSET l 1 B", "+OK|", "LSET l -1 D", "+OK|", "LRANGE l 0 -1", "*4|$1|a|$1|B|$1|c|$1|D|", "LSET l 4 x", "-ERR range|",
                "LSET l -5 x", "-ERR range|", "LSET none 0 x", "-ERR missing|", "LSET l x x", "-ERR integer|", "LSET l 0", "-ERR arity|",
                "SET t v", "+OK|", "LRANGE t 0 1", "-WRONGTYPE|", "LINDEX t 0", "-WRONGTYPE|", "LSET t 0 v", "-WRONGTYPE|",
                "LINSERT l BEFORE c x", ":5|", "LINSERT l after D y", ":6|", "LRANGE l 0 -1", "*6|$1|a|$1|B|$1|x|$1|c|$1|D|$1|y|",
                "LINSERT l BEFORE none x", ":-1|", "LINSERT none AFTER a x", ":0|", "LINSERT l BESIDE a x", "-ERR syntax|",
                "LINSERT t BESIDE a x", "-ERR syntax|", "LINSERT t AFTER a x", "-WRONGTYPE|", "LINSERT l AFTER a", "-ERR arity|");
        CHECK.script("RPUSH l a b a c a b a", ":7|", "LREM l 2 a", ":2|", "LRANGE l 0 -1", "*5|$1|b|$1|c|$1|a|$1|b|$1|a|",
                "LREM l -1 b", ":1|", "LRANGE l 0 -1", "*4|$1|b|$1|c|$1|a|$1|a|", "LREM l 0 a", ":2|", "LREM l 0 a", ":0|",
                "LREM none 0 a", ":0|", "LREM l x a", "-ERR integer|", "LREM l 0", "-ERR arity|",
                "LREM l -9223372036854775808 b", ":1|", "LREM l 5 c", ":1|", "EXISTS l", ":0|", "SADD s a", ":1|",
                "LREM s 0 a", "-WRONGTYPE|", "RPUSH l a b c d e", ":5|", "LTRIM l 1 -2", "+OK|", "LRANGE l 0 -1", "*3|$1|b|$1|c|$1|d|",
                "LTRIM l 0 -1", "+OK|", "LTRIM l 1 1", "+OK|", "LRANGE l 0 -1", "*1|$1|c|", "LTRIM l 5 9", "+OK|", "EXISTS l", ":0|",
                "LTRIM l 0 1", "+OK|", "LTRIM l 0 x", "-ERR integer|", "LTRIM s 0 1", "-WRONGTYPE|", "LTRIM l 0", "-ERR arity|");
        CHECK.script("RPUSH a 1 2 3", ":3|", "LMOVE a b LEFT RIGHT", "$1|1|", "LMOVE a b RIGHT LEFT", "$1|3|",
                "LRANGE b 0 -1", "*2|$1|3|$1|1|", "LMOVE a b left left", "$1|2|", "EXISTS a", ":0|", "LMOVE a b LEFT LEFT", "$-1|",
                "LRANGE b 0 -1", "*3|$1|2|$1|3|$1|1|", "LMOVE b b LEFT RIGHT", "$1|2|", "RPOPLPUSH b b", "$1|2|",
                "LRANGE b 0 -1", "*3|$1|2|$1|3|$1|1|", "RPOPLPUSH b c", "$1|1|", "LRANGE c 0 -1", "*1|$1|1|", "PEXPIRE c 9", ":1|",
                "LMOVE c c LEFT LEFT", "$1|1|", "PTTL c", ":9|", "RPOPLPUSH none c", "$-1|", "SET t v", "+OK|",
                "LMOVE none t LEFT LEFT", "-WRONGTYPE|", "RPOPLPUSH t none", "-WRONGTYPE|", "LMOVE b t UP LEFT", "-ERR syntax|",
                "LMOVE b c LEFT DOWN", "-ERR syntax|", "LMOVE b c LEFT", "-ERR arity|", "RPOPLPUSH b", "-ERR arity|",
                "LLEN b", ":2|");
    }

    private static void hashes() {
        CHECK.script("HSET h f 1 g 2", ":2|", "HSET h f 3 a 4 f 5", ":1|", "HGET h f", "$1|5|", "HGET h x", "$-1|", "HGET none f", "$-1|",
                "HSET h f", "-ERR arity|", "HSET h f 1 g", "-ERR arity|", "HSET h", "-ERR arity|", "HGET h", "-ERR arity|",
                "HMGET h f x a", "*3|$1|5|$-1|$1|4|", "HMGET none f", "*1|$-1|", "HMGET h", "-ERR arity|",
                "HKEYS h", "*3|$1|a|$1|f|$1|g|", "HVALS h", "*3|$1|4|$1|5|$1|2|", "HGETALL h", "*6|$1|a|$1|4|$1|f|$1|5|$1|g|$1|2|",
                "HKEYS none", "*0|", "HVALS none", "*0|", "HGETALL none", "*0|", "HLEN h", ":3|", "HLEN none", ":0|",
                "HEXISTS h a", ":1|", "HEXISTS h x", ":0|", "HSTRLEN h a", ":1|", "HSTRLEN h x", ":0|", "HSTRLEN none x", ":0|",
                "HSETNX h a 9", ":0|", "HSETNX h b 9", ":1|", "HGET h b", "$1|9|", "HGET h a", "$1|4|", "HSETNX n f v", ":1|",
                "HSETNX n f", "-ERR arity|", "HDEL h a x b", ":2|", "HDEL h x", ":0|", "HDEL none x", ":0|", "HDEL h", "-ERR arity|",
                "HDEL h f g", ":2|", "EXISTS h", ":0|", "HKEYS", "-ERR arity|", "HVALS h x", "-ERR arity|", "HGETALL", "-ERR arity|",
                "HLEN", "-ERR arity|", "HEXISTS h", "-ERR arity|", "HSTRLEN h", "-ERR arity|");
        CHECK.script("HINCRBY h f 5", ":5|", "HINCRBY h f -7", ":-2|", "HGET h f", "$2|-2|", "HSET h m 9223372036854775807", ":1|",
                "HINCRBY h m 1", "-ERR overflow|", "HINCRBY h m -9223372036854775808", ":-1|", "HINCRBY h f x", "-ERR integer|",
                "HSET h t v", ":1|", "HINCRBY h t 1", "-ERR integer|", "HINCRBY h f", "-ERR arity|", "SET t v", "+OK|",
                "HSET t f v", "-WRONGTYPE|", "HSETNX t f v", "-WRONGTYPE|", "HGET t f", "-WRONGTYPE|", "HMGET t f", "-WRONGTYPE|",
                "HDEL t f", "-WRONGTYPE|", "HEXISTS t f", "-WRONGTYPE|", "HLEN t", "-WRONGTYPE|", "HSTRLEN t f", "-WRONGTYPE|",
                "HKEYS t", "-WRONGTYPE|", "HVALS t", "-WRONGTYPE|", "HGETALL t", "-WRONGTYPE|", "HINCRBY t f 1", "-WRONGTYPE|",
                "HINCRBY t f x", "-ERR integer|");
        Client c = new Client();
        c.send(0, Client.star("HSET", "h", "\u0080", "1", "\u007f", "2", "", "3", "a", "4", "aa", "5") + "HKEYS h\n");
        CHECK.due("fields rising", Client.shown(c.taken(0)), ":5|*5|$0||$1|a|$2|aa|$1|<127>|$1|<128>|");
    }

    private static void sets() {
        CHECK.script("SADD s c a b a", ":3|", "SADD s a d", ":1|", "SMEMBERS s", "*4|$1|a|$1|b|$1|c|$1|d|", "SMEMBERS none", "*0|",
                "SCARD s", ":4|", "SCARD none", ":0|", "SISMEMBER s a", ":1|", "SISMEMBER s x", ":0|", "SISMEMBER none x", ":0|",
                "SMISMEMBER s a x b", "*3|:1|:0|:1|", "SMISMEMBER none a", "*1|:0|", "SREM s a x b a", ":2|", "SREM none a", ":0|",
                "SADD s", "-ERR arity|", "SREM s", "-ERR arity|", "SISMEMBER s", "-ERR arity|", "SMISMEMBER s", "-ERR arity|",
                "SCARD", "-ERR arity|", "SMEMBERS", "-ERR arity|", "SPOP s", "$1|c|", "SPOP s", "$1|d|", "EXISTS s", ":0|", "SPOP s", "$-1|",
                "SPOP s 1", "-ERR arity|", "SET t v", "+OK|", "SADD t a", "-WRONGTYPE|", "SREM t a", "-WRONGTYPE|",
                "SISMEMBER t a", "-WRONGTYPE|", "SMISMEMBER t a", "-WRONGTYPE|", "SCARD t", "-WRONGTYPE|", "SMEMBERS t", "-WRONGTYPE|",
                "SPOP t", "-WRONGTYPE|");
        CHECK.script("SADD a 1 2", ":2|", "SADD b 2 3", ":2|", "SMOVE a b 1", ":1|", "SMEMBERS b", "*3|$1|1|$1|2|$1|3|",
                "SMOVE a b 2", ":1|", "EXISTS a", ":0|", "SCARD b", ":3|", "SMOVE a b 2", ":0|", "SMOVE b c 9", ":0|", "EXISTS c", ":0|",
                "SMOVE b c 3", ":1|", "SMEMBERS c", "*1|$1|3|", "SMOVE b b 1", ":1|", "SMOVE b b 9", ":0|", "SCARD b", ":2|",
                "SET t v", "+OK|", "SMOVE none t 1", "-WRONGTYPE|", "SMOVE t b 1", "-WRONGTYPE|", "SMOVE b c", "-ERR arity|");
        CHECK.script("SADD a 1 2 3", ":3|", "SADD b 2 3 4", ":3|", "SADD c 3 5", ":2|", "SINTER a b", "*2|$1|2|$1|3|",
                "SINTER a b c", "*1|$1|3|", "SINTER a none", "*0|", "SINTER a", "*3|$1|1|$1|2|$1|3|",
                "SUNION a b c", "*5|$1|1|$1|2|$1|3|$1|4|$1|5|", "SUNION none a", "*3|$1|1|$1|2|$1|3|", "SDIFF a b", "*1|$1|1|",
                "SDIFF a none c", "*2|$1|1|$1|2|", "SDIFF none a", "*0|", "SINTER", "-ERR arity|", "SUNION", "-ERR arity|",
                "SDIFF", "-ERR arity|", "SINTERSTORE d a b", ":2|", "SMEMBERS d", "*2|$1|2|$1|3|", "PEXPIRE d 9", ":1|",
                "SUNIONSTORE d a d", ":3|", "PTTL d", ":-1|", "SDIFFSTORE d a b", ":1|", "SMEMBERS d", "*1|$1|1|",
                "SINTERSTORE d a none", ":0|", "EXISTS d", ":0|", "SET t v", "+OK|", "SUNIONSTORE t a", ":3|", "TYPE t", "+set|",
                "SET t v", "+OK|", "SINTERSTORE t none", ":0|", "EXISTS t", ":0|", "SET t v", "+OK|", "SINTER none t", "-WRONGTYPE|",
                "SUNION a t", "-WRONGTYPE|", "SDIFF a t", "-WRONGTYPE|", "SDIFFSTORE t a t", "-WRONGTYPE|",
                "SINTERSTORE d", "-ERR arity|", "SUNIONSTORE d", "-ERR arity|", "SDIFFSTORE d", "-ERR arity|");
    }

    private static void scores() {
        CHECK.script("ZADD z 2 b 1 a 2 aa", ":3|", "ZADD z 3 b 4 c", ":1|", "ZADD z CH 4 b 4 c 5 d", ":2|", "ZRANGE z 0 -1 WITHSCORES",
                "*10|$1|a|$1|1|$2|aa|$1|2|$1|b|$1|4|$1|c|$1|4|$1|d|$1|5|", "ZADD z NX 9 a 9 e", ":1|", "ZSCORE z a", "$1|1|",
                "ZADD z XX 7 a 9 f", ":0|", "ZSCORE z a", "$1|7|", "ZSCORE z f", "$-1|", "ZADD z GT CH 6 a 8 b", ":1|", "ZSCORE z a", "$1|7|",
                "ZADD z LT CH 6 a 9 b 1 g", ":2|", "ZSCORE z b", "$1|8|", "ZSCORE z g", "$1|1|", "ZADD z xx gt ch 5 g 5 h", ":1|",
                "ZSCORE none a", "$-1|", "ZADD z 1 x 2 x 3 x", ":1|", "ZSCORE z x", "$1|3|", "ZADD none XX 1 a", ":0|", "EXISTS none", ":0|",
                "ZADD z", "-ERR arity|", "ZADD z 1", "-ERR arity|", "ZADD z NX 1", "-ERR syntax|", "ZADD z 1 a 2", "-ERR syntax|",
                "ZADD z NX XX 1 a", "-ERR syntax|", "ZADD z NX GT 1 a", "-ERR syntax|", "ZADD z LT NX 1 a", "-ERR syntax|",
                "ZADD z GT LT 1 a", "-ERR syntax|", "ZADD z CH CH 1 a", "-ERR syntax|", "ZADD z INCR 1 a 2 b", "-ERR syntax|",
                "ZADD z NX CH INCR", "-ERR syntax|", "ZADD z x a", "-ERR integer|", "ZADD z 1 a NX b", "-ERR integer|",
                "ZADD z 1 a 1.5 b", "-ERR integer|", "SET t v", "+OK|", "ZADD t 1 a", "-WRONGTYPE|", "ZADD t x a", "-ERR integer|",
                "ZADD n 1 NX", ":1|", "ZADD n 1 CH 2 INCR", ":2|");
        CHECK.script("ZADD z INCR 5 a", "$1|5|", "ZADD z INCR -7 a", "$2|-2|", "ZADD z NX INCR 1 a", "$-1|", "ZADD z XX INCR 1 b", "$-1|",
                "ZADD z GT INCR -1 a", "$-1|", "ZADD z GT INCR 0 a", "$-1|", "ZADD z GT INCR 1 a", "$2|-1|", "ZADD z LT INCR 1 a", "$-1|",
                "ZADD z LT INCR -1 a", "$2|-2|", "ZADD z LT INCR 3 new", "$1|3|", "ZADD z XX INCR 2 a", "$1|0|", "ZADD n XX INCR 2 a", "$-1|",
                "EXISTS n", ":0|", "ZADD z 9223372036854775807 m", ":1|", "ZADD z INCR 1 m", "-ERR overflow|", "ZINCRBY z 1 m", "-ERR overflow|",
                "ZINCRBY z -1 m", "$19|9223372036854775806|", "ZINCRBY z 4 k", "$1|4|", "ZINCRBY z 0 k", "$1|4|", "ZINCRBY n 2 k", "$1|2|",
                "ZINCRBY z x k", "-ERR integer|", "ZINCRBY z 1", "-ERR arity|", "SET t v", "+OK|", "ZINCRBY t 1 k", "-WRONGTYPE|",
                "ZADD z INCR 1 a b", "-ERR syntax|");
    }

    private static void orders() {
        CHECK.script("ZADD z 1 a 2 b 2 c 3 d", ":4|", "ZCARD z", ":4|", "ZCARD none", ":0|", "ZRANK z a", ":0|", "ZRANK z c", ":2|",
                "ZREVRANK z a", ":3|", "ZREVRANK z d", ":0|", "ZRANK z x", "$-1|", "ZREVRANK none x", "$-1|", "ZRANGE z 0 1", "*2|$1|a|$1|b|",
                "ZRANGE z -2 -1 withscores", "*4|$1|c|$1|2|$1|d|$1|3|", "ZREVRANGE z 0 1", "*2|$1|d|$1|c|",
                "ZREVRANGE z -2 -1 WITHSCORES", "*4|$1|b|$1|2|$1|a|$1|1|", "ZRANGE z 2 1", "*0|", "ZRANGE none 0 -1", "*0|",
                "ZRANGE z 0 1 SCORES", "-ERR syntax|", "ZRANGE z 0 1 WITHSCORES x", "-ERR syntax|", "ZRANGE z x 1 y", "-ERR syntax|",
                "ZRANGE z x 1", "-ERR integer|", "ZREVRANGE z 0 x", "-ERR integer|", "ZRANGE z 0", "-ERR arity|", "ZREVRANGE z 0", "-ERR arity|",
                "ZREM z a x d", ":2|", "ZREM z x", ":0|", "ZREM none x", ":0|", "ZREM z b c", ":2|", "EXISTS z", ":0|", "ZREM z", "-ERR arity|",
                "ZCARD", "-ERR arity|", "ZRANK z", "-ERR arity|", "ZREVRANK z", "-ERR arity|", "ZSCORE z", "-ERR arity|", "SET t v", "+OK|",
                "ZREM t a", "-WRONGTYPE|", "ZSCORE t a", "-WRONGTYPE|", "ZCARD t", "-WRONGTYPE|", "ZRANK t a", "-WRONGTYPE|",
                "ZREVRANK t a", "-WRONGTYPE|", "ZRANGE t 0 1", "-WRONGTYPE|", "ZREVRANGE t 0 1", "-WRONGTYPE|");
        CHECK.script("ZADD z 1 a 2 b 2 c 3 d 5 e", ":5|", "ZRANGEBYSCORE z 2 3", "*3|$1|b|$1|c|$1|d|", "ZRANGEBYSCORE z (2 +inf", "*2|$1|d|$1|e|",
                "ZRANGEBYSCORE z -inf (2", "*1|$1|a|", "ZRANGEBYSCORE z -inf +inf LIMIT 1 2", "*2|$1|b|$1|c|",
                "ZRANGEBYSCORE z -inf +inf limit 3 -1 withscores", "*4|$1|d|$1|3|$1|e|$1|5|", "ZRANGEBYSCORE z 1 2 WITHSCORES LIMIT 0 1",
                "*2|$1|a|$1|1|", "ZRANGEBYSCORE z 1 9 LIMIT -1 5", "*0|", "ZRANGEBYSCORE z 1 9 LIMIT 0 0", "*0|", "ZRANGEBYSCORE z 1 9 LIMIT 9 9", "*0|",
                "ZRANGEBYSCORE z 3 2", "*0|", "ZRANGEBYSCORE z (2 (2", "*0|", "ZRANGEBYSCORE z +inf -inf", "*0|", "ZRANGEBYSCORE none 1 2", "*0|",
                "ZREVRANGEBYSCORE z 3 2", "*3|$1|d|$1|c|$1|b|", "ZREVRANGEBYSCORE z +inf (2", "*2|$1|e|$1|d|",
                "ZREVRANGEBYSCORE z +inf -inf LIMIT 1 2 WITHSCORES", "*4|$1|d|$1|3|$1|c|$1|2|", "ZREVRANGEBYSCORE z 2 3", "*0|",
                "ZRANGEBYSCORE z 1 2 LIMIT 1", "-ERR syntax|", "ZRANGEBYSCORE z 1 2 LIMIT 1 1 LIMIT 1 1", "-ERR syntax|",
                "ZRANGEBYSCORE z 1 2 WITHSCORES WITHSCORES", "-ERR syntax|", "ZRANGEBYSCORE z x y no", "-ERR syntax|",
                "ZRANGEBYSCORE z x 2", "-ERR bound|", "ZRANGEBYSCORE z 1 ( LIMIT x 1", "-ERR bound|", "ZRANGEBYSCORE z 1 2 LIMIT x 1", "-ERR integer|",
                "ZRANGEBYSCORE z 1 2 LIMIT 1 x", "-ERR integer|", "ZRANGEBYSCORE z inf 2", "-ERR bound|", "ZRANGEBYSCORE z (-inf 2", "-ERR bound|",
                "ZRANGEBYSCORE z ((1 2", "-ERR bound|", "ZREVRANGEBYSCORE z 1 01", "-ERR bound|", "ZRANGEBYSCORE z 1", "-ERR arity|",
                "ZREVRANGEBYSCORE z 1", "-ERR arity|", "ZCOUNT z 2 3", ":3|", "ZCOUNT z (2 5", ":2|", "ZCOUNT z 9 1", ":0|", "ZCOUNT none 1 2", ":0|",
                "ZCOUNT z 1 x", "-ERR bound|", "ZCOUNT z 1", "-ERR arity|", "SET t v", "+OK|", "ZRANGEBYSCORE t 1 2", "-WRONGTYPE|",
                "ZREVRANGEBYSCORE t 1 2", "-WRONGTYPE|", "ZCOUNT t 1 2", "-WRONGTYPE|", "ZCOUNT t x 2", "-ERR bound|");
        CHECK.script("ZADD z 1 a 2 b 3 c 4 d 5 e 6 f", ":6|", "ZREMRANGEBYRANK z 1 2", ":2|", "ZRANGE z 0 -1", "*4|$1|a|$1|d|$1|e|$1|f|",
                "ZREMRANGEBYRANK z 5 9", ":0|", "ZREMRANGEBYRANK none 0 -1", ":0|", "ZREMRANGEBYRANK z x 1", "-ERR integer|",
                "ZREMRANGEBYRANK z 1", "-ERR arity|", "ZREMRANGEBYSCORE z (1 5", ":2|", "ZRANGE z 0 -1", "*2|$1|a|$1|f|",
                "ZREMRANGEBYSCORE z 7 9", ":0|", "ZREMRANGEBYSCORE none 7 9", ":0|", "ZREMRANGEBYSCORE z 7", "-ERR arity|",
                "ZREMRANGEBYSCORE z 7 y", "-ERR bound|", "ZREMRANGEBYSCORE z -inf +inf", ":2|", "EXISTS z", ":0|", "SET t v", "+OK|",
                "ZREMRANGEBYRANK t 0 1", "-WRONGTYPE|", "ZREMRANGEBYSCORE t 0 1", "-WRONGTYPE|");
        CHECK.script("ZADD z 1 a 2 b 3 c 4 d", ":4|", "ZPOPMIN z", "*2|$1|a|$1|1|", "ZPOPMAX z", "*2|$1|d|$1|4|", "ZPOPMAX z 5",
                "*4|$1|c|$1|3|$1|b|$1|2|", "EXISTS z", ":0|", "ZPOPMIN z", "*0|", "ZPOPMAX z 3", "*0|", "ZPOPMIN z -1", "-ERR range|",
                "ZPOPMIN z x", "-ERR integer|", "ZPOPMIN z 1 1", "-ERR arity|", "ZPOPMAX", "-ERR arity|", "ZADD z 1 a 1 b", ":2|", "ZPOPMIN z 0", "*0|",
                "ZPOPMIN z 1", "*2|$1|a|$1|1|", "SET t v", "+OK|", "ZPOPMIN t", "-WRONGTYPE|", "ZPOPMAX t -1", "-ERR range|", "ZPOPMAX t 1", "-WRONGTYPE|");
    }

    public static void main(String[] args) {
        lists();
        hashes();
        sets();
        scores();
        orders();
        CHECK.end();
    }
}
