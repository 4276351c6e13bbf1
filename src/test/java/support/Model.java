import java.math.BigInteger;
import java.util.ArrayList;
import java.util.Arrays;
import java.util.BitSet;
import java.util.Collections;
import java.util.HashSet;
import java.util.List;
import java.util.Locale;
import java.util.Set;
import java.util.TreeMap;
import java.util.TreeSet;

/** A second reading of the document, as plain as can be, which tests compare the program with. */
final class Model {
    static final String CRLF = "\r\n";
    static final BigInteger LEAST = BigInteger.valueOf(Long.MIN_VALUE);
    static final BigInteger GREATEST = BigInteger.valueOf(Long.MAX_VALUE);
    static final long TIME_MOST = 9007199254740991L;

    static final class Val {
        String kind;
        String text = "";
        List<String> list = new ArrayList<>();
        TreeMap<String, String> hash = new TreeMap<>();
        TreeSet<String> set = new TreeSet<>();
        TreeMap<String, Long> order = new TreeMap<>();
        Long ends;

        Val(String kind) {
            this.kind = kind;
        }

        boolean isEmpty() {
            return !kind.equals("string") && list.isEmpty() && hash.isEmpty() && set.isEmpty() && order.isEmpty();
        }

        List<String> line() {
            List<String> members = new ArrayList<>(order.keySet());
            members.sort((x, y) -> order.get(x).equals(order.get(y)) ? x.compareTo(y)
                    : Long.compare(order.get(x), order.get(y)));
            return members;
        }
    }

    static final class Conn {
        boolean open = true;
        String input = "";
        StringBuilder output = new StringBuilder();
        boolean burst;
        List<List<String>> block;
        boolean spoilt;
        Set<String> watched = new HashSet<>();
        boolean dirty;
        TreeSet<String> channels = new TreeSet<>();

        void close() {
            open = false;
            input = "";
            block = null;
            spoilt = false;
            watched.clear();
            dirty = false;
            channels.clear();
        }

        void say(String bytes) {
            if (burst) {
                return;
            }
            if (output.length() + bytes.length() > 65536) {
                output.setLength(0);
                burst = true;
            } else {
                output.append(bytes);
            }
        }
    }

    static final class Refused extends RuntimeException {
        final String text;

        Refused(String text) {
            this.text = text;
        }
    }

    static final class Stopped extends RuntimeException {
    }

    final Conn[] conns = {new Conn(), new Conn(), new Conn(), new Conn()};
    TreeMap<String, Val> keys = new TreeMap<>();
    StringBuilder log = new StringBuilder();
    long now;
    long fuse = -1;
    boolean up = true;
    boolean replaying;
    boolean changed;
    List<String> record;

    // ---- the face

    int send(int connection, String bytes) {
        if (connection < 0 || connection > 3 || !up || !conns[connection].open) {
            return -1;
        }
        Conn c = conns[connection];
        c.input += bytes;
        int done = 0;
        try {
            while (c.open) {
                Parsed p = parse(c.input);
                if (p == null) {
                    break;
                }
                if (p.fault != null) {
                    c.say("-ERR protocol: " + p.fault + CRLF);
                    c.close();
                    break;
                }
                c.input = c.input.substring(p.used);
                if (!p.words.isEmpty()) {
                    done++;
                    request(c, p.words);
                    if (c.burst) {
                        c.close();
                    }
                }
            }
        } catch (Stopped e) {
            return -1;
        }
        if (c.input.length() > 65536) {
            c.close();
        }
        return done;
    }

    boolean open(int connection) {
        if (connection < 0 || connection > 3 || !up) {
            return false;
        }
        conns[connection] = new Conn();
        return true;
    }

    int pass(long t) {
        if (t < 0 || !up || t > (1L << 52) - now) {
            return -1;
        }
        now += t;
        try {
            return expire();
        } catch (Stopped e) {
            return -1;
        }
    }

    boolean crash() {
        if (!up) {
            return false;
        }
        stop();
        return true;
    }

    int restart() {
        if (up) {
            return -1;
        }
        up = true;
        fuse = -1;
        replaying = true;
        int ran = 0;
        int place = 0;
        while (place < log.length() && log.charAt(place) == '*') {
            List<List<String>> run = new ArrayList<>();
            int at = place;
            boolean whole = false;
            while (true) {
                Parsed p = at < log.length() ? parse(log.substring(at)) : null;
                if (p == null || p.fault != null || p.words.isEmpty()) {
                    break;
                }
                at += p.used;
                String name = p.words.get(0);
                if (name.equals("EXEC")) {
                    whole = true;
                    break;
                }
                if (!name.equals("MULTI")) {
                    run.add(p.words);
                    if (run.size() == 1 && place + p.used == at) {
                        whole = true;
                        break;
                    }
                }
            }
            if (!whole) {
                break;
            }
            for (List<String> words : run) {
                perform(conns[0], words);
            }
            place = at;
            ran++;
        }
        log.setLength(place);
        replaying = false;
        expire();
        return ran;
    }

    int rewrite() {
        if (!up) {
            return -1;
        }
        StringBuilder fresh = new StringBuilder();
        for (String k : keys.keySet()) {
            Val v = keys.get(k);
            List<String> told = new ArrayList<>();
            int most = 1000;
            String name = "";
            switch (v.kind) {
                case "string":
                    fresh.append(row(Arrays.asList("SET", k, v.text)));
                    break;
                case "list":
                    name = "RPUSH";
                    told.addAll(v.list);
                    break;
                case "hash":
                    name = "HSET";
                    for (String f : v.hash.keySet()) {
                        told.add(f);
                        told.add(v.hash.get(f));
                    }
                    break;
                case "set":
                    name = "SADD";
                    told.addAll(v.set);
                    break;
                default:
                    name = "ZADD";
                    for (String m : v.line()) {
                        told.add("" + v.order.get(m));
                        told.add(m);
                    }
                    break;
            }
            for (int i = 0; i < told.size(); i += most) {
                List<String> words = new ArrayList<>(Arrays.asList(name, k));
                words.addAll(told.subList(i, Math.min(told.size(), i + most)));
                fresh.append(row(words));
            }
            if (v.ends != null) {
                fresh.append(row(Arrays.asList("PEXPIREAT", k, "" + v.ends)));
            }
        }
        if (fuse >= 0 && fresh.length() > fuse) {
            stop();
            return -1;
        }
        if (fuse >= 0) {
            fuse -= fresh.length();
        }
        log = fresh;
        return log.length();
    }

    boolean tear(int n) {
        if (up || n < 0 || n > log.length()) {
            return false;
        }
        log.setLength(n);
        return true;
    }

    int total(int what) {
        if (what < 0 || what > 2) {
            return -1;
        }
        if (!up) {
            return 0;
        }
        if (what == 0) {
            return keys.size();
        }
        if (what == 1) {
            return memory();
        }
        int timed = 0;
        for (Val v : keys.values()) {
            timed += v.ends == null ? 0 : 1;
        }
        return timed;
    }

    // ---- requests

    static final class Parsed {
        List<String> words = new ArrayList<>();
        int used;
        String fault;

        static Parsed fault(String word) {
            Parsed p = new Parsed();
            p.fault = word;
            return p;
        }
    }

    /** The number and the length of a LINE; null: not all there; an empty row: none. */
    private static int[] line(String s) {
        String head = s.substring(0, Math.min(16, s.length()));
        int end = head.indexOf(CRLF);
        if (end < 0) {
            return s.length() < 16 ? null : new int[0];
        }
        String number = head.substring(1, end);
        if (!number.matches("-?[0-9]{1,6}")) {
            return new int[0];
        }
        return new int[] {Integer.parseInt(number), end + 2};
    }

    static Parsed parse(String s) {
        if (s.isEmpty()) {
            return null;
        }
        Parsed p = new Parsed();
        if (s.charAt(0) != '*') {
            int end = s.indexOf('\n');
            if (end < 0 || end >= 2048) {
                return s.length() >= 2048 ? Parsed.fault("line") : null;
            }
            String text = s.substring(0, end);
            if (text.endsWith("\r")) {
                text = text.substring(0, text.length() - 1);
            }
            for (String word : text.split(" ")) {
                if (!word.isEmpty()) {
                    p.words.add(word);
                }
            }
            p.used = end + 1;
            return p;
        }
        int[] head = line(s);
        if (head == null) {
            return null;
        }
        if (head.length == 0 || head[0] > 1024) {
            return Parsed.fault("count");
        }
        int at = head[1];
        for (int i = 0; i < head[0]; i++) {
            if (at == s.length()) {
                return null;
            }
            if (s.charAt(at) != '$') {
                return Parsed.fault("dollar");
            }
            int[] inner = line(s.substring(at));
            if (inner == null) {
                return null;
            }
            if (inner.length == 0 || inner[0] < 0 || inner[0] > 16384) {
                return Parsed.fault("length");
            }
            int from = at + inner[1];
            int to = from + inner[0];
            String ending = s.substring(Math.min(to, s.length()), Math.min(to + 2, s.length()));
            if (!CRLF.startsWith(ending)) {
                return Parsed.fault("ending");
            }
            if (ending.length() < 2) {
                return null;
            }
            p.words.add(s.substring(from, to));
            at = to + 2;
        }
        p.used = at;
        return p;
    }

    // ---- answers

    static String word(String s) {
        return s == null ? "$-1" + CRLF : "$" + s.length() + CRLF + s + CRLF;
    }

    static String number(long n) {
        return ":" + n + CRLF;
    }

    static String row(List<String> words) {
        StringBuilder all = new StringBuilder("*" + words.size() + CRLF);
        for (String w : words) {
            all.append(word(w));
        }
        return all.toString();
    }

    // ---- what is done with a request

    private static final String NAMES = " APPEND 2 2 BITCOUNT 1 3 DBSIZE 0 0 DECR 1 1 DECRBY 2 2 DEL 1 9999 DISCARD 0 0 "
            + "ECHO 1 1 EXEC 0 0 EXISTS 1 9999 EXPIRE 2 2 EXPIREAT 2 2 FLUSHALL 0 0 GET 1 1 GETBIT 2 2 GETDEL 1 1 "
            + "GETRANGE 3 3 GETSET 2 2 HDEL 2 9999 HEXISTS 2 2 HGET 2 2 HGETALL 1 1 HINCRBY 3 3 HKEYS 1 1 HLEN 1 1 "
            + "HMGET 2 9999 HSET 3 9999 HSETNX 3 3 HSTRLEN 2 2 HVALS 1 1 INCR 1 1 INCRBY 2 2 KEYS 1 1 LINDEX 2 2 "
            + "LINSERT 4 4 LLEN 1 1 LMOVE 4 4 LPOP 1 2 LPUSH 2 9999 LPUSHX 2 9999 LRANGE 3 3 LREM 3 3 LSET 3 3 "
            + "LTRIM 3 3 MGET 1 9999 MSET 2 9999 MSETNX 2 9999 MULTI 0 0 PERSIST 1 1 PEXPIRE 2 2 PEXPIREAT 2 2 "
            + "PING 0 1 PSETEX 3 3 PTTL 1 1 PUBLISH 2 2 QUIT 0 0 RENAME 2 2 RENAMENX 2 2 RPOP 1 2 RPOPLPUSH 2 2 "
            + "RPUSH 2 9999 RPUSHX 2 9999 SADD 2 9999 SCARD 1 1 SDIFF 1 9999 SDIFFSTORE 2 9999 SET 2 9999 SETBIT 3 3 "
            + "SETEX 3 3 SETNX 2 2 SETRANGE 3 3 SINTER 1 9999 SINTERSTORE 2 9999 SISMEMBER 2 2 SMEMBERS 1 1 "
            + "SMISMEMBER 2 9999 SMOVE 3 3 SPOP 1 1 SREM 2 9999 STRLEN 1 1 SUBSCRIBE 1 9999 SUNION 1 9999 "
            + "SUNIONSTORE 2 9999 TIME 0 0 TTL 1 1 TYPE 1 1 UNSUBSCRIBE 0 9999 UNWATCH 0 0 WATCH 1 9999 ZADD 3 9999 "
            + "ZCARD 1 1 ZCOUNT 3 3 ZINCRBY 3 3 ZPOPMAX 1 2 ZPOPMIN 1 2 ZRANGE 3 9999 ZRANGEBYSCORE 3 9999 ZRANK 2 2 "
            + "ZREM 2 9999 ZREMRANGEBYRANK 3 3 ZREMRANGEBYSCORE 3 3 ZREVRANGE 3 9999 ZREVRANGEBYSCORE 3 9999 "
            + "ZREVRANK 2 2 ZSCORE 2 2 ";
    private static final String FILLING = " SET GETSET SETNX SETEX PSETEX MSET MSETNX APPEND SETRANGE INCR DECR INCRBY "
            + "DECRBY SETBIT LPUSH RPUSH LPUSHX RPUSHX LSET LINSERT LMOVE RPOPLPUSH HSET HSETNX HINCRBY SADD SINTERSTORE "
            + "SUNIONSTORE SDIFFSTORE ZADD ZINCRBY ";

    static final List<String> COMMANDS = new ArrayList<>();

    static {
        for (String part : NAMES.trim().split(" ")) {
            if (Character.isLetter(part.charAt(0))) {
                COMMANDS.add(part);
            }
        }
    }

    static String upper(String s) {
        StringBuilder all = new StringBuilder();
        for (char ch : s.toCharArray()) {
            all.append(ch >= 'a' && ch <= 'z' ? (char) (ch - 32) : ch);
        }
        return all.toString();
    }

    private static String wrongWith(String name, int args) {
        int at = name.isEmpty() || name.contains(" ") ? -1 : NAMES.indexOf(" " + name + " ");
        if (at < 0 || !Character.isLetter(name.charAt(0))) {
            return "ERR unknown";
        }
        String[] parts = NAMES.substring(at + 1).split(" ");
        boolean pairs = (name.equals("MSET") || name.equals("MSETNX")) && args % 2 != 0
                || (name.equals("HSET") || name.equals("BITCOUNT")) && args % 2 == 0;
        boolean right = args >= Integer.parseInt(parts[1]) && args <= Integer.parseInt(parts[2]) && !pairs;
        return right ? null : "ERR arity";
    }

    private void request(Conn c, List<String> words) {
        String name = upper(words.get(0));
        String wrong = wrongWith(name, words.size() - 1);
        if (wrong != null) {
            c.spoilt |= c.block != null;
            c.say("-" + wrong + CRLF);
            return;
        }
        boolean free = Arrays.asList("PING", "QUIT", "SUBSCRIBE", "UNSUBSCRIBE").contains(name);
        if (!c.channels.isEmpty() && !free) {
            c.say("-ERR mode" + CRLF);
            return;
        }
        if (c.block == null || name.equals("QUIT")) {
            alone(c, name, words);
            return;
        }
        switch (name) {
            case "MULTI":
                c.say("-ERR nested" + CRLF);
                break;
            case "WATCH":
                c.say("-ERR watch" + CRLF);
                break;
            case "DISCARD":
                endBlock(c);
                c.say("+OK" + CRLF);
                break;
            case "EXEC":
                exec(c);
                break;
            case "SUBSCRIBE":
            case "UNSUBSCRIBE":
                c.spoilt = true;
                c.say("-ERR mode" + CRLF);
                break;
            default:
                if (c.block.size() == 200) {
                    c.spoilt = true;
                    c.say("-ERR full" + CRLF);
                } else {
                    c.block.add(words);
                    c.say("+QUEUED" + CRLF);
                }
                break;
        }
    }

    private void alone(Conn c, String name, List<String> words) {
        switch (name) {
            case "EXEC":
            case "DISCARD":
                c.say("-ERR none" + CRLF);
                break;
            case "MULTI":
                c.block = new ArrayList<>();
                c.say("+OK" + CRLF);
                break;
            case "QUIT":
                c.say("+OK" + CRLF);
                c.close();
                break;
            default:
                String answer = perform(c, words);
                if (record != null) {
                    disk(row(record));
                }
                c.say(answer);
                break;
        }
    }

    private static void endBlock(Conn c) {
        c.block = null;
        c.spoilt = false;
        c.watched.clear();
        c.dirty = false;
    }

    private void exec(Conn c) {
        List<List<String>> block = c.block;
        boolean spoilt = c.spoilt;
        boolean dirty = c.dirty;
        endBlock(c);
        if (spoilt) {
            c.say("-EXECABORT" + CRLF);
            return;
        }
        if (dirty) {
            c.say("*-1" + CRLF);
            return;
        }
        StringBuilder answers = new StringBuilder("*" + block.size() + CRLF);
        StringBuilder logged = new StringBuilder();
        for (List<String> words : block) {
            answers.append(perform(c, words));
            if (record != null) {
                logged.append(row(record));
            }
        }
        if (logged.length() > 0) {
            disk(row(Arrays.asList("MULTI")) + logged + row(Arrays.asList("EXEC")));
        }
        c.say(answers.toString());
    }

    private void disk(String bytes) {
        for (char b : bytes.toCharArray()) {
            if (fuse == 0) {
                stop();
                throw new Stopped();
            }
            if (fuse > 0) {
                fuse--;
            }
            log.append(b);
        }
    }

    private void stop() {
        up = false;
        keys.clear();
        for (int i = 0; i < 4; i++) {
            conns[i] = new Conn();
            conns[i].open = false;
        }
    }

    private int expire() {
        int went = 0;
        for (String k : new ArrayList<>(keys.keySet())) {
            Long ends = keys.get(k).ends;
            if (ends != null && ends <= now) {
                keys.remove(k);
                touch(k);
                disk(row(Arrays.asList("DEL", k)));
                went++;
            }
        }
        return went;
    }

    private int memory() {
        int all = 0;
        for (String k : keys.keySet()) {
            Val v = keys.get(k);
            all += 64 + k.length() + v.text.length();
            for (String w : v.list) {
                all += 16 + w.length();
            }
            for (String f : v.hash.keySet()) {
                all += 32 + f.length() + v.hash.get(f).length();
            }
            for (String m : v.set) {
                all += 24 + m.length();
            }
            for (String m : v.order.keySet()) {
                all += 48 + m.length();
            }
        }
        return all;
    }

    private void touch(String k) {
        for (Conn c : conns) {
            c.dirty |= c.watched.contains(k);
        }
    }

    private void change(String k) {
        changed = true;
        touch(k);
        Val v = keys.get(k);
        if (v != null && v.isEmpty()) {
            keys.remove(k);
        }
    }

    private boolean drop(String k) {
        if (keys.remove(k) == null) {
            return false;
        }
        change(k);
        return true;
    }

    // ---- commands

    String perform(Conn c, List<String> words) {
        String name = upper(words.get(0));
        List<String> a = words.subList(1, words.size());
        changed = false;
        record = new ArrayList<>(words);
        record.set(0, name);
        String answer;
        try {
            answer = command(c, name, a);
        } catch (Refused e) {
            answer = "-" + e.text + CRLF;
        }
        if (!changed || replaying) {
            record = null;
        }
        return answer;
    }

    private static long integer(String s) {
        if (!s.matches("0|-?[1-9][0-9]*")) {
            throw new Refused("ERR integer");
        }
        BigInteger n = new BigInteger(s);
        if (n.compareTo(LEAST) < 0 || n.compareTo(GREATEST) > 0) {
            throw new Refused("ERR integer");
        }
        return n.longValue();
    }

    private static long sum(long x, BigInteger y) {
        BigInteger n = BigInteger.valueOf(x).add(y);
        if (n.compareTo(LEAST) < 0 || n.compareTo(GREATEST) > 0) {
            throw new Refused("ERR overflow");
        }
        return n.longValue();
    }

    private static void check(boolean right, String fault) {
        if (!right) {
            throw new Refused(fault);
        }
    }

    private long time(long told, boolean seconds, boolean fromNow, long least) {
        check(told >= least && told <= TIME_MOST, "ERR time");
        BigInteger t = BigInteger.valueOf(told).multiply(BigInteger.valueOf(seconds ? 1000 : 1))
                .add(BigInteger.valueOf(fromNow ? now : 0));
        check(t.abs().compareTo(BigInteger.valueOf(TIME_MOST)) <= 0, "ERR time");
        return t.longValue();
    }

    private void room(String name) {
        check(replaying || memory() < 60000 || !FILLING.contains(" " + name + " "), "OOM");
    }

    private void sort(String name, String kind, List<String> named) {
        room(name);
        for (String k : named) {
            check(!keys.containsKey(k) || keys.get(k).kind.equals(kind), "WRONGTYPE");
        }
    }

    private Val read(String k, String kind) {
        Val v = keys.get(k);
        return v == null ? new Val(kind) : v;
    }

    private Val made(String k, String kind) {
        return keys.computeIfAbsent(k, x -> new Val(kind));
    }

    private String command(Conn c, String name, List<String> a) {
        switch (name.charAt(0)) {
            case 'L':
                return listCommand(name, a);
            case 'H':
                return hashCommand(name, a);
            case 'Z':
                return orderCommand(name, a);
            default:
                break;
        }
        if (name.equals("RPUSH") || name.equals("RPUSHX") || name.equals("RPOP") || name.equals("RPOPLPUSH")) {
            return listCommand(name, a);
        }
        if (name.matches("SADD|SREM|SISMEMBER|SMISMEMBER|SCARD|SMEMBERS|SMOVE|SPOP|(SINTER|SUNION|SDIFF)(STORE)?")) {
            return setCommand(name, a);
        }
        String answer = otherCommand(c, name, a);
        answer = answer != null ? answer : keyCommand(name, a);
        return answer != null ? answer : textCommand(name, a);
    }

    private String otherCommand(Conn c, String name, List<String> a) {
        switch (name) {
            case "PING":
                return a.isEmpty() ? "+PONG" + CRLF : word(a.get(0));
            case "ECHO":
                return word(a.get(0));
            case "UNWATCH":
                c.watched.clear();
                c.dirty = false;
                return "+OK" + CRLF;
            case "WATCH": {
                Set<String> all = new HashSet<>(c.watched);
                all.addAll(a);
                check(all.size() <= 64, "ERR full");
                c.watched = all;
                return "+OK" + CRLF;
            }
            case "TIME":
                return row(Arrays.asList("" + now / 1000, "" + now % 1000));
            case "SUBSCRIBE": {
                StringBuilder all = new StringBuilder();
                for (String ch : a) {
                    if (!c.channels.contains(ch) && c.channels.size() == 32) {
                        all.append("-ERR full" + CRLF);
                    } else {
                        c.channels.add(ch);
                        all.append("*3" + CRLF + word("subscribe") + word(ch) + number(c.channels.size()));
                    }
                }
                return all.toString();
            }
            case "UNSUBSCRIBE": {
                List<String> go = a.isEmpty() ? new ArrayList<>(c.channels) : a;
                StringBuilder all = new StringBuilder();
                for (String ch : go) {
                    c.channels.remove(ch);
                    all.append("*3" + CRLF + word("unsubscribe") + word(ch) + number(c.channels.size()));
                }
                return go.isEmpty() ? "*3" + CRLF + word("unsubscribe") + word(null) + number(0) : all.toString();
            }
            case "PUBLISH": {
                int had = 0;
                for (Conn other : conns) {
                    if (other.channels.contains(a.get(0))) {
                        had++;
                        other.say(row(Arrays.asList("message", a.get(0), a.get(1))));
                        if (other.burst) {
                            other.close();
                        }
                    }
                }
                return number(had);
            }
            default:
                return null;
        }
    }

    private String keyCommand(String name, List<String> a) {
        switch (name) {
            case "DEL": {
                int went = 0;
                for (String k : a) {
                    went += drop(k) ? 1 : 0;
                }
                return number(went);
            }
            case "EXISTS": {
                int there = 0;
                for (String k : a) {
                    there += keys.containsKey(k) ? 1 : 0;
                }
                return number(there);
            }
            case "TYPE":
                return "+" + (keys.containsKey(a.get(0)) ? keys.get(a.get(0)).kind : "none") + CRLF;
            case "RENAME":
            case "RENAMENX": {
                boolean nx = name.equals("RENAMENX");
                check(keys.containsKey(a.get(0)), "ERR missing");
                boolean same = a.get(0).equals(a.get(1));
                boolean moves = !same && !(nx && keys.containsKey(a.get(1)));
                if (moves) {
                    keys.put(a.get(1), keys.remove(a.get(0)));
                    change(a.get(0));
                    change(a.get(1));
                }
                return nx ? number(moves ? 1 : 0) : "+OK" + CRLF;
            }
            case "KEYS": {
                List<String> fitting = new ArrayList<>();
                for (String k : keys.keySet()) {
                    if (fits(a.get(0), k)) {
                        fitting.add(k);
                    }
                }
                return row(fitting);
            }
            case "DBSIZE":
                return number(keys.size());
            case "FLUSHALL":
                for (String k : new ArrayList<>(keys.keySet())) {
                    drop(k);
                }
                return "+OK" + CRLF;
            case "EXPIRE":
            case "PEXPIRE":
            case "EXPIREAT":
            case "PEXPIREAT": {
                long t = time(integer(a.get(1)), !name.startsWith("P"), !name.endsWith("AT"), -TIME_MOST);
                String k = a.get(0);
                if (!keys.containsKey(k)) {
                    return number(0);
                }
                if (t <= now && !replaying) {
                    drop(k);
                    record = Arrays.asList("DEL", k);
                } else {
                    keys.get(k).ends = t;
                    change(k);
                    record = Arrays.asList("PEXPIREAT", k, "" + t);
                }
                return number(1);
            }
            case "PERSIST": {
                Val v = keys.get(a.get(0));
                boolean had = v != null && v.ends != null;
                if (had) {
                    v.ends = null;
                    change(a.get(0));
                }
                return number(had ? 1 : 0);
            }
            case "TTL":
            case "PTTL": {
                Val v = keys.get(a.get(0));
                if (v == null || v.ends == null) {
                    return number(v == null ? -2 : -1);
                }
                long left = v.ends - now;
                return number(name.equals("TTL") ? (left + 500) / 1000 : left);
            }
            default:
                return null;
        }
    }

    private static boolean fits(String pattern, String key) {
        List<BitSet> parts = new ArrayList<>();
        int i = 0;
        while (i < pattern.length()) {
            char ch = pattern.charAt(i++);
            BitSet set = new BitSet(256);
            if (ch == '*') {
                parts.add(null);
                continue;
            }
            if (ch == '?') {
                set.set(0, 256);
            } else if (ch == '\\' && i < pattern.length()) {
                set.set(pattern.charAt(i++));
            } else if (ch == '[') {
                boolean none = i < pattern.length() && pattern.charAt(i) == '^';
                i += none ? 1 : 0;
                while (i < pattern.length() && pattern.charAt(i) != ']') {
                    char from = pattern.charAt(i++);
                    if (from == '\\' && i < pattern.length()) {
                        from = pattern.charAt(i++);
                    }
                    char to = from;
                    if (i + 1 < pattern.length() && pattern.charAt(i) == '-' && pattern.charAt(i + 1) != ']') {
                        i++;
                        to = pattern.charAt(i++);
                        if (to == '\\' && i < pattern.length()) {
                            to = pattern.charAt(i++);
                        }
                    }
                    if (from <= to) {
                        set.set(from, to + 1);
                    }
                }
                i++;
                if (none) {
                    set.flip(0, 256);
                }
            } else {
                set.set(ch);
            }
            parts.add(set);
        }
        boolean[] reach = new boolean[key.length() + 1];
        reach[0] = true;
        for (BitSet part : parts) {
            boolean[] next = new boolean[key.length() + 1];
            for (int j = 0; j <= key.length(); j++) {
                if (part == null) {
                    next[j] = reach[j] || j > 0 && next[j - 1];
                } else {
                    next[j] = j > 0 && reach[j - 1] && part.get(key.charAt(j - 1));
                }
            }
            reach = next;
        }
        return reach[key.length()];
    }

    private void put(String k, String v, Long ends) {
        Val fresh = new Val("string");
        fresh.text = v;
        fresh.ends = ends;
        keys.put(k, fresh);
        change(k);
    }

    /** A span's bytes or words, from .. to (behind). */
    private static int[] span(long i, long j, int size) {
        long from = Math.max(0, i < 0 ? i + size : i);
        long to = Math.min(size - 1, j < 0 ? j + size : j);
        return from > to ? new int[] {0, 0} : new int[] {(int) from, (int) to + 1};
    }

    private String old(String k) {
        return word(keys.containsKey(k) && keys.get(k).kind.equals("string") ? keys.get(k).text : null);
    }

    private String textCommand(String name, List<String> a) {
        String k = a.get(0);
        List<String> only = a.subList(0, 1);
        String kind = "string";
        switch (name) {
            case "GET":
                sort(name, kind, only);
                return old(k);
            case "SET":
                return set(a);
            case "GETDEL": {
                sort(name, kind, only);
                String answer = old(k);
                drop(k);
                record = Arrays.asList("DEL", k);
                return answer;
            }
            case "GETSET": {
                sort(name, kind, only);
                String answer = old(k);
                put(k, a.get(1), null);
                record = Arrays.asList("SET", k, a.get(1));
                return answer;
            }
            case "SETNX":
                room(name);
                if (keys.containsKey(k)) {
                    return number(0);
                }
                put(k, a.get(1), null);
                record = Arrays.asList("SET", k, a.get(1));
                return number(1);
            case "SETEX":
            case "PSETEX": {
                long t = time(integer(a.get(1)), name.equals("SETEX"), true, 1);
                room(name);
                put(k, a.get(2), t);
                record = Arrays.asList("SET", k, a.get(2), "PXAT", "" + t);
                return "+OK" + CRLF;
            }
            case "MGET": {
                StringBuilder all = new StringBuilder("*" + a.size() + CRLF);
                for (String each : a) {
                    all.append(old(each));
                }
                return all.toString();
            }
            case "MSET":
            case "MSETNX": {
                room(name);
                boolean nx = name.equals("MSETNX");
                for (int i = 0; i < a.size() && nx; i += 2) {
                    if (keys.containsKey(a.get(i))) {
                        return number(0);
                    }
                }
                for (int i = 0; i < a.size(); i += 2) {
                    put(a.get(i), a.get(i + 1), null);
                }
                return nx ? number(1) : "+OK" + CRLF;
            }
            case "APPEND": {
                sort(name, kind, only);
                String t = read(k, kind).text + a.get(1);
                check(t.length() <= 16384, "ERR size");
                made(k, kind).text = t;
                change(k);
                return number(t.length());
            }
            case "STRLEN":
                sort(name, kind, only);
                return number(read(k, kind).text.length());
            case "GETRANGE": {
                long i = integer(a.get(1));
                long j = integer(a.get(2));
                sort(name, kind, only);
                String t = read(k, kind).text;
                int[] s = span(i, j, t.length());
                return word(t.substring(s[0], s[1]));
            }
            case "SETRANGE": {
                long i = integer(a.get(1));
                check(i >= 0, "ERR range");
                sort(name, kind, only);
                StringBuilder t = new StringBuilder(read(k, kind).text);
                if (a.get(2).isEmpty()) {
                    return number(t.length());
                }
                check(i <= 16384 && i + a.get(2).length() <= 16384, "ERR size");
                while (t.length() < i) {
                    t.append('\0');
                }
                t.replace((int) i, Math.min(t.length(), (int) i + a.get(2).length()), a.get(2));
                made(k, kind).text = t.toString();
                change(k);
                return number(t.length());
            }
            case "INCR":
            case "DECR":
            case "INCRBY":
            case "DECRBY": {
                BigInteger by = BigInteger.valueOf(name.endsWith("BY") ? integer(a.get(1)) : 1);
                sort(name, kind, only);
                long from = keys.containsKey(k) ? integer(keys.get(k).text) : 0;
                long to = sum(from, name.startsWith("D") ? by.negate() : by);
                made(k, kind).text = "" + to;
                change(k);
                return number(to);
            }
            case "SETBIT":
            case "GETBIT": {
                long i = integer(a.get(1));
                boolean sets = name.equals("SETBIT");
                check(i >= 0 && i <= 131071 && (!sets || a.get(2).equals("0") || a.get(2).equals("1")), "ERR range");
                sort(name, kind, only);
                StringBuilder t = new StringBuilder(read(k, kind).text);
                int at = (int) (i / 8);
                int shift = 7 - (int) (i % 8);
                int was = at < t.length() ? t.charAt(at) >> shift & 1 : 0;
                if (sets) {
                    while (t.length() <= at) {
                        t.append('\0');
                    }
                    int rest = t.charAt(at) & ~(1 << shift);
                    t.setCharAt(at, (char) (rest | Integer.parseInt(a.get(2)) << shift));
                    made(k, kind).text = t.toString();
                    change(k);
                }
                return number(was);
            }
            case "BITCOUNT": {
                long i = a.size() > 1 ? integer(a.get(1)) : 0;
                long j = a.size() > 1 ? integer(a.get(2)) : -1;
                sort(name, kind, only);
                String t = read(k, kind).text;
                int[] s = span(i, j, t.length());
                int ones = 0;
                for (int p = s[0]; p < s[1]; p++) {
                    ones += Integer.bitCount(t.charAt(p));
                }
                return number(ones);
            }
            default:
                throw new IllegalStateException(name);
        }
    }

    private String set(List<String> a) {
        String cond = null;
        boolean get = false;
        String timing = null;
        String told = null;
        for (int i = 2; i < a.size(); i++) {
            String o = upper(a.get(i));
            if (o.equals("NX") || o.equals("XX")) {
                check(cond == null, "ERR syntax");
                cond = o;
            } else if (o.equals("GET")) {
                check(!get, "ERR syntax");
                get = true;
            } else if (o.matches("KEEPTTL|EX|PX|EXAT|PXAT")) {
                check(timing == null, "ERR syntax");
                timing = o;
                if (!o.equals("KEEPTTL")) {
                    i++;
                    check(i < a.size(), "ERR syntax");
                    told = a.get(i);
                }
            } else {
                throw new Refused("ERR syntax");
            }
        }
        Long t = told == null ? null
                : (Long) time(integer(told), timing.startsWith("EX"), !timing.endsWith("AT"), 1);
        String k = a.get(0);
        room("SET");
        if (get) {
            sort("SET", "string", a.subList(0, 1));
        }
        String old = old(k);
        boolean there = keys.containsKey(k);
        if (cond != null && cond.equals("NX") == there) {
            return get ? old : word(null);
        }
        if (t != null && t <= now && !replaying) {
            drop(k);
            record = Arrays.asList("DEL", k);
        } else if ("KEEPTTL".equals(timing)) {
            put(k, a.get(1), there ? keys.get(k).ends : null);
            record = Arrays.asList("SET", k, a.get(1), "KEEPTTL");
        } else {
            put(k, a.get(1), t);
            record = t == null ? Arrays.asList("SET", k, a.get(1)) : Arrays.asList("SET", k, a.get(1), "PXAT", "" + t);
        }
        return get ? old : "+OK" + CRLF;
    }

    private String listCommand(String name, List<String> a) {
        String k = a.get(0);
        List<String> only = a.subList(0, 1);
        String kind = "list";
        switch (name) {
            case "LPUSH":
            case "LPUSHX":
            case "RPUSH":
            case "RPUSHX": {
                sort(name, kind, only);
                if (name.endsWith("X") && !keys.containsKey(k)) {
                    return number(0);
                }
                List<String> list = made(k, kind).list;
                for (String v : a.subList(1, a.size())) {
                    list.add(name.startsWith("L") ? 0 : list.size(), v);
                }
                change(k);
                return number(list.size());
            }
            case "LPOP":
            case "RPOP": {
                long n = a.size() > 1 ? integer(a.get(1)) : 1;
                check(n >= 0, "ERR range");
                sort(name, kind, only);
                if (!keys.containsKey(k)) {
                    return a.size() > 1 ? "*-1" + CRLF : word(null);
                }
                List<String> list = keys.get(k).list;
                List<String> gone = new ArrayList<>();
                while (gone.size() < n && !list.isEmpty()) {
                    gone.add(list.remove(name.equals("LPOP") ? 0 : list.size() - 1));
                }
                if (!gone.isEmpty()) {
                    change(k);
                }
                return a.size() > 1 ? row(gone) : word(gone.get(0));
            }
            case "LLEN":
                sort(name, kind, only);
                return number(read(k, kind).list.size());
            case "LRANGE":
            case "LTRIM": {
                long i = integer(a.get(1));
                long j = integer(a.get(2));
                sort(name, kind, only);
                List<String> list = read(k, kind).list;
                int[] s = span(i, j, list.size());
                List<String> kept = new ArrayList<>(list.subList(s[0], s[1]));
                if (name.equals("LRANGE")) {
                    return row(kept);
                }
                if (kept.size() < list.size()) {
                    keys.get(k).list = kept;
                    change(k);
                }
                return "+OK" + CRLF;
            }
            case "LINDEX":
            case "LSET": {
                long i = integer(a.get(1));
                sort(name, kind, only);
                List<String> list = read(k, kind).list;
                long at = i < 0 ? i + list.size() : i;
                boolean there = at >= 0 && at < list.size();
                if (name.equals("LINDEX")) {
                    return word(there ? list.get((int) at) : null);
                }
                check(keys.containsKey(k), "ERR missing");
                check(there, "ERR range");
                list.set((int) at, a.get(2));
                change(k);
                return "+OK" + CRLF;
            }
            case "LINSERT": {
                String where = upper(a.get(1));
                check(where.equals("BEFORE") || where.equals("AFTER"), "ERR syntax");
                sort(name, kind, only);
                if (!keys.containsKey(k)) {
                    return number(0);
                }
                List<String> list = keys.get(k).list;
                int at = list.indexOf(a.get(2));
                if (at < 0) {
                    return number(-1);
                }
                list.add(where.equals("AFTER") ? at + 1 : at, a.get(3));
                change(k);
                return number(list.size());
            }
            case "LREM": {
                long n = integer(a.get(1));
                sort(name, kind, only);
                List<String> list = read(k, kind).list;
                int went = 0;
                while (n == 0 || n == Long.MIN_VALUE || went < Math.abs(n)) {
                    int at = n < 0 ? list.lastIndexOf(a.get(2)) : list.indexOf(a.get(2));
                    if (at < 0) {
                        break;
                    }
                    list.remove(at);
                    went++;
                }
                if (went > 0) {
                    change(k);
                }
                return number(went);
            }
            default: {
                String from = name.equals("LMOVE") ? upper(a.get(2)) : "RIGHT";
                String to = name.equals("LMOVE") ? upper(a.get(3)) : "LEFT";
                check(from.matches("LEFT|RIGHT") && to.matches("LEFT|RIGHT"), "ERR syntax");
                sort(name, kind, a.subList(0, 2));
                if (!keys.containsKey(k)) {
                    return word(null);
                }
                List<String> list = keys.get(k).list;
                String v = list.remove(from.equals("LEFT") ? 0 : list.size() - 1);
                List<String> target = made(a.get(1), kind).list;
                target.add(to.equals("LEFT") ? 0 : target.size(), v);
                change(k);
                change(a.get(1));
                return word(v);
            }
        }
    }

    private String hashCommand(String name, List<String> a) {
        String k = a.get(0);
        List<String> only = a.subList(0, 1);
        String kind = "hash";
        long by = name.equals("HINCRBY") ? integer(a.get(2)) : 0;
        sort(name, kind, only);
        TreeMap<String, String> hash = read(k, kind).hash;
        String f = a.size() > 1 ? a.get(1) : "";
        switch (name) {
            case "HSET": {
                hash = made(k, kind).hash;
                int fresh = 0;
                for (int i = 1; i < a.size(); i += 2) {
                    fresh += hash.put(a.get(i), a.get(i + 1)) == null ? 1 : 0;
                }
                change(k);
                return number(fresh);
            }
            case "HSETNX":
                if (hash.containsKey(f)) {
                    return number(0);
                }
                made(k, kind).hash.put(f, a.get(2));
                change(k);
                return number(1);
            case "HGET":
                return word(hash.get(f));
            case "HMGET": {
                List<String> values = new ArrayList<>();
                for (String each : a.subList(1, a.size())) {
                    values.add(hash.get(each));
                }
                return row(values);
            }
            case "HDEL": {
                int went = 0;
                for (String each : a.subList(1, a.size())) {
                    went += hash.remove(each) == null ? 0 : 1;
                }
                if (went > 0) {
                    change(k);
                }
                return number(went);
            }
            case "HEXISTS":
                return number(hash.containsKey(f) ? 1 : 0);
            case "HLEN":
                return number(hash.size());
            case "HSTRLEN":
                return number(hash.getOrDefault(f, "").length());
            case "HKEYS":
                return row(new ArrayList<>(hash.keySet()));
            case "HVALS":
                return row(new ArrayList<>(hash.values()));
            case "HGETALL": {
                List<String> all = new ArrayList<>();
                for (String each : hash.keySet()) {
                    all.add(each);
                    all.add(hash.get(each));
                }
                return row(all);
            }
            default: {
                long to = sum(hash.containsKey(f) ? integer(hash.get(f)) : 0, BigInteger.valueOf(by));
                made(k, kind).hash.put(f, "" + to);
                change(k);
                return number(to);
            }
        }
    }

    private String setCommand(String name, List<String> a) {
        String k = a.get(0);
        String kind = "set";
        if (name.matches("(SINTER|SUNION|SDIFF)(STORE)?")) {
            boolean stores = name.endsWith("STORE");
            List<String> from = a.subList(stores ? 1 : 0, a.size());
            sort(name, kind, from);
            TreeSet<String> all = new TreeSet<>(read(from.get(0), kind).set);
            for (String each : from.subList(1, from.size())) {
                TreeSet<String> other = read(each, kind).set;
                if (name.startsWith("SI")) {
                    all.retainAll(other);
                } else if (name.startsWith("SU")) {
                    all.addAll(other);
                } else {
                    all.removeAll(other);
                }
            }
            if (!stores) {
                return row(new ArrayList<>(all));
            }
            if (all.isEmpty()) {
                drop(k);
            } else {
                Val v = new Val(kind);
                v.set = all;
                keys.put(k, v);
                change(k);
            }
            return number(all.size());
        }
        if (name.equals("SMOVE")) {
            sort(name, kind, a.subList(0, 2));
            boolean there = read(k, kind).set.contains(a.get(2));
            if (there && !k.equals(a.get(1))) {
                keys.get(k).set.remove(a.get(2));
                made(a.get(1), kind).set.add(a.get(2));
                change(k);
                change(a.get(1));
            }
            return number(there ? 1 : 0);
        }
        sort(name, kind, a.subList(0, 1));
        TreeSet<String> set = read(k, kind).set;
        List<String> rest = a.subList(1, a.size());
        int many = 0;
        switch (name) {
            case "SADD":
                set = made(k, kind).set;
                for (String m : rest) {
                    many += set.add(m) ? 1 : 0;
                }
                if (many > 0) {
                    change(k);
                }
                return number(many);
            case "SREM":
                for (String m : rest) {
                    many += set.remove(m) ? 1 : 0;
                }
                if (many > 0) {
                    change(k);
                }
                return number(many);
            case "SISMEMBER":
                return number(set.contains(a.get(1)) ? 1 : 0);
            case "SMISMEMBER": {
                StringBuilder all = new StringBuilder("*" + rest.size() + CRLF);
                for (String m : rest) {
                    all.append(number(set.contains(m) ? 1 : 0));
                }
                return all.toString();
            }
            case "SCARD":
                return number(set.size());
            case "SMEMBERS":
                return row(new ArrayList<>(set));
            default:
                if (set.isEmpty()) {
                    return word(null);
                }
                String least = set.pollFirst();
                change(k);
                return word(least);
        }
    }

    private String orderCommand(String name, List<String> a) {
        String k = a.get(0);
        List<String> only = a.subList(0, 1);
        String kind = "zset";
        switch (name) {
            case "ZADD":
                return zadd(a);
            case "ZINCRBY": {
                long by = integer(a.get(1));
                sort(name, kind, only);
                return increased(k, a.get(2), by, new HashSet<>());
            }
            case "ZRANGE":
            case "ZREVRANGE": {
                boolean scores = a.size() == 4 && upper(a.get(3)).equals("WITHSCORES");
                check(a.size() == 3 || scores, "ERR syntax");
                long i = integer(a.get(1));
                long j = integer(a.get(2));
                sort(name, kind, only);
                Val v = read(k, kind);
                List<String> line = v.line();
                if (name.startsWith("ZREV")) {
                    Collections.reverse(line);
                }
                int[] s = span(i, j, line.size());
                return told(v, line.subList(s[0], s[1]), scores);
            }
            case "ZRANGEBYSCORE":
            case "ZREVRANGEBYSCORE":
                return byScore(name, a);
            case "ZCOUNT":
            case "ZREMRANGEBYSCORE": {
                BigInteger[] lo = bound(a.get(1));
                BigInteger[] hi = bound(a.get(2));
                sort(name, kind, only);
                List<String> in = between(read(k, kind), lo, hi);
                if (name.startsWith("ZREM") && !in.isEmpty()) {
                    keys.get(k).order.keySet().removeAll(in);
                    change(k);
                }
                return number(in.size());
            }
            case "ZREMRANGEBYRANK": {
                long i = integer(a.get(1));
                long j = integer(a.get(2));
                sort(name, kind, only);
                List<String> line = read(k, kind).line();
                int[] s = span(i, j, line.size());
                List<String> gone = line.subList(s[0], s[1]);
                if (!gone.isEmpty()) {
                    keys.get(k).order.keySet().removeAll(gone);
                    change(k);
                }
                return number(gone.size());
            }
            case "ZPOPMIN":
            case "ZPOPMAX": {
                long n = a.size() > 1 ? integer(a.get(1)) : 1;
                check(n >= 0, "ERR range");
                sort(name, kind, only);
                Val v = read(k, kind);
                List<String> line = v.line();
                if (name.endsWith("MAX")) {
                    Collections.reverse(line);
                }
                List<String> gone = line.subList(0, (int) Math.min(n, line.size()));
                String answer = told(v, gone, true);
                if (!gone.isEmpty()) {
                    v.order.keySet().removeAll(gone);
                    change(k);
                }
                return answer;
            }
            default:
                break;
        }
        sort(name, kind, only);
        Val v = read(k, kind);
        switch (name) {
            case "ZREM": {
                int went = 0;
                for (String m : a.subList(1, a.size())) {
                    went += v.order.remove(m) == null ? 0 : 1;
                }
                if (went > 0) {
                    change(k);
                }
                return number(went);
            }
            case "ZSCORE":
                return word(v.order.containsKey(a.get(1)) ? "" + v.order.get(a.get(1)) : null);
            case "ZCARD":
                return number(v.order.size());
            default: {
                List<String> line = v.line();
                if (name.equals("ZREVRANK")) {
                    Collections.reverse(line);
                }
                int at = line.indexOf(a.get(1));
                return at < 0 ? word(null) : number(at);
            }
        }
    }

    private static String told(Val v, List<String> members, boolean scores) {
        List<String> all = new ArrayList<>();
        for (String m : members) {
            all.add(m);
            if (scores) {
                all.add("" + v.order.get(m));
            }
        }
        return row(all);
    }

    /** A bound as a number doubled, one more or less of it when it itself is out: {as a lower, as an upper one}. */
    private static BigInteger[] bound(String s) {
        BigInteger far = BigInteger.ONE.shiftLeft(80);
        if (s.toLowerCase(Locale.ROOT).equals("-inf")) {
            return new BigInteger[] {far.negate(), far.negate()};
        }
        if (s.toLowerCase(Locale.ROOT).equals("+inf")) {
            return new BigInteger[] {far, far};
        }
        boolean out = s.startsWith("(");
        try {
            BigInteger n = BigInteger.valueOf(integer(out ? s.substring(1) : s));
            BigInteger by = out ? BigInteger.ONE : BigInteger.ZERO;
            return new BigInteger[] {n.add(by), n.subtract(by)};
        } catch (Refused e) {
            throw new Refused("ERR bound");
        }
    }

    private static List<String> between(Val v, BigInteger[] lo, BigInteger[] hi) {
        List<String> in = new ArrayList<>();
        for (String m : v.line()) {
            BigInteger score = BigInteger.valueOf(v.order.get(m));
            if (score.compareTo(lo[0]) >= 0 && score.compareTo(hi[1]) <= 0) {
                in.add(m);
            }
        }
        return in;
    }

    private String byScore(String name, List<String> a) {
        boolean scores = false;
        int limit = 0;
        for (int i = 3; i < a.size(); i++) {
            String o = upper(a.get(i));
            if (o.equals("WITHSCORES") && !scores) {
                scores = true;
            } else {
                check(o.equals("LIMIT") && limit == 0 && i + 2 < a.size(), "ERR syntax");
                limit = i;
                i += 2;
            }
        }
        boolean rev = name.startsWith("ZREV");
        BigInteger[] first = bound(a.get(1));
        BigInteger[] second = bound(a.get(2));
        long skip = limit > 0 ? integer(a.get(limit + 1)) : 0;
        long most = limit > 0 ? integer(a.get(limit + 2)) : -1;
        sort(name, "zset", a.subList(0, 1));
        Val v = read(a.get(0), "zset");
        List<String> in = rev ? between(v, second, first) : between(v, first, second);
        if (rev) {
            Collections.reverse(in);
        }
        List<String> out = new ArrayList<>();
        for (int i = 0; i < in.size(); i++) {
            if (skip >= 0 && i >= skip && (most < 0 || out.size() < most)) {
                out.add(in.get(i));
            }
        }
        return told(v, out, scores);
    }

    private String zadd(List<String> a) {
        Set<String> flags = new HashSet<>();
        int i = 1;
        while (i < a.size() && upper(a.get(i)).matches("NX|XX|GT|LT|CH|INCR")) {
            check(flags.add(upper(a.get(i))), "ERR syntax");
            i++;
        }
        List<String> pairs = a.subList(i, a.size());
        check(!pairs.isEmpty() && pairs.size() % 2 == 0, "ERR syntax");
        check(!flags.contains("INCR") || pairs.size() == 2, "ERR syntax");
        check(!flags.contains("NX") || !flags.contains("XX") && !flags.contains("GT") && !flags.contains("LT"),
                "ERR syntax");
        check(!flags.contains("GT") || !flags.contains("LT"), "ERR syntax");
        for (int p = 0; p < pairs.size(); p += 2) {
            integer(pairs.get(p));
        }
        String k = a.get(0);
        sort("ZADD", "zset", a.subList(0, 1));
        if (flags.contains("INCR")) {
            return increased(k, pairs.get(1), integer(pairs.get(0)), flags);
        }
        int added = 0;
        int moved = 0;
        TreeMap<String, Long> order = read(k, "zset").order;
        for (int p = 0; p < pairs.size(); p += 2) {
            long score = integer(pairs.get(p));
            String m = pairs.get(p + 1);
            Long old = order.get(m);
            if (old == null) {
                if (!flags.contains("XX")) {
                    order.put(m, score);
                    added++;
                }
            } else if (!flags.contains("NX") && old != score && !(flags.contains("GT") && score < old)
                    && !(flags.contains("LT") && score > old)) {
                order.put(m, score);
                moved++;
            }
        }
        if (added + moved > 0) {
            made(k, "zset").order = order;
            change(k);
        }
        return number(flags.contains("CH") ? added + moved : added);
    }

    private String increased(String k, String m, long by, Set<String> flags) {
        Long old = read(k, "zset").order.get(m);
        if (old == null ? flags.contains("XX") : flags.contains("NX")) {
            return word(null);
        }
        long score = sum(old == null ? 0 : old, BigInteger.valueOf(by));
        if (old != null && (flags.contains("GT") && score <= old || flags.contains("LT") && score >= old)) {
            return word(null);
        }
        if (old == null || score != old) {
            made(k, "zset").order.put(m, score);
            change(k);
        }
        return word("" + score);
    }
}
