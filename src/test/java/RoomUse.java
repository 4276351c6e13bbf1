import com.sun.management.ThreadMXBean;
import java.lang.management.ManagementFactory;
import java.util.Random;

/** Runs of at most 512 calls that ask for much room: what they make is measured, and must stay well within it. */
public final class RoomUse {
    private static final int CALLS_MOST = 512;

    /**
     * The room has 7.3 million fields and elements and 600,000 objects and arrays. One of the former takes a byte at
     * least and one of the latter 16, so that so many bytes are well within it.
     */
    private static final long BYTES_MOST = 2000000;

    private static final int[] LENGTHS = {1, 15, 16, 17, 64, 129, 256, 257, 258, 511, 512, 513, 1025, 2049, 4097, 8193, 16384};

    private static final ThreadMXBean THREADS = (ThreadMXBean) ManagementFactory.getThreadMXBean();
    private static int wrong;
    private static long dearest;

    private final KeySteward steward;
    private int calls;
    private long spent;

    private RoomUse() {
        long before = made();
        steward = new KeySteward();
        spent = made() - before;
    }

    private static long made() {
        return THREADS.getThreadAllocatedBytes(Thread.currentThread().getId());
    }

    private static void due(String what, long got, long want) {
        if (got != want) {
            wrong++;
            System.out.println(what + ": is " + got + ", due is " + want);
        }
    }

    private static int four(String text, int at) {
        int number = 0;
        for (int i = at; i < at + 4; i++) {
            number = number << 8 | (i < text.length() ? text.charAt(i) : 0);
        }
        return number;
    }

    private static int callsFor(String text) {
        return (text.length() + 19) / 20 + 2;
    }

    private int ask(int connection, String text) {
        long before = made();
        for (int at = 0; at < text.length(); at += 20) {
            steward.feed(four(text, at), four(text, at + 4), four(text, at + 8), four(text, at + 12), four(text, at + 16));
        }
        steward.end(text.length());
        int done = steward.send(connection);
        spent += made() - before;
        calls += callsFor(text);
        return done;
    }

    private RoomUse send(int connection, String text) {
        ask(connection, text);
        return this;
    }

    private int rewrite() {
        long before = made();
        int bytes = steward.rewrite();
        spent += made() - before;
        calls++;
        return bytes;
    }

    private void pass(long thousandths) {
        long before = made();
        steward.pass(thousandths);
        spent += made() - before;
        calls++;
    }

    /** A crash and a restart, with so much of the log torn off. */
    private int restart(int torn) {
        long before = made();
        steward.crash();
        steward.tear(steward.log() - torn);
        int ran = steward.restart();
        spent += made() - before;
        calls += torn > 0 ? 4 : 2;
        return ran;
    }

    private void open(int connection) {
        long before = made();
        steward.open(connection);
        spent += made() - before;
        calls++;
    }

    private void empty(int connection) {
        long before = made();
        steward.take(connection, steward.out(connection));
        spent += made() - before;
        calls += 2;
    }

    private RoomUse restartsToTheEnd(boolean rewrites) {
        while (calls + 3 <= CALLS_MOST) {
            restart(0);
            if (rewrites) {
                rewrite();
            }
        }
        return this;
    }

    private void end(String what) {
        dearest = Math.max(dearest, spent);
        if (calls > CALLS_MOST || spent > BYTES_MOST) {
            wrong++;
            System.out.println(what + ": " + calls + " calls made " + spent + " bytes");
        }
    }

    /** A key of one byte that is no LF, CR or blank. */
    private static char key(int i) {
        int b = i + 1;
        b += b >= 10 ? 1 : 0;
        b += b >= 13 ? 1 : 0;
        b += b >= 32 ? 1 : 0;
        return (char) b;
    }

    /** So many lines, # being a key. */
    private static String each(int many, String line) {
        StringBuilder all = new StringBuilder();
        for (int i = 0; i < many; i++) {
            all.append(line.replace('#', key(i))).append('\n');
        }
        return all.toString();
    }

    /** Lines up to so many bytes, # being a number that grows. */
    private static String lines(String line, int bytes) {
        StringBuilder all = new StringBuilder();
        int i = 0;
        String next = line.replace("#", "0");
        while (all.length() + next.length() <= bytes) {
            all.append(next);
            i++;
            next = line.replace("#", "" + i);
        }
        return all.toString();
    }

    /** A command's beginning with so many words behind it; # is a word of its own each time. */
    private static String row(String begin, String part, int many) {
        StringBuilder all = new StringBuilder(begin);
        for (int i = 0; i < many; i++) {
            all.append(' ').append(part.replace("#", "" + (char) (33 + i / 200) + (char) (33 + i % 200)));
        }
        return all.append('\n').toString();
    }

    /** Texts of so many bytes for so many keys as the memory and so much input take. */
    private static String fill(int length, int input) {
        int many = Math.min(60000 / (65 + length) + 1, 250);
        String line = "SETBIT # " + (8 * length - 1) + " 1";
        return each(Math.min(many, input / (line.length() + 1)), line);
    }

    /** Many short texts went ahead of longer ones, which come back by each restart. */
    private static void longTextsBehindShortOnes() {
        RoomUse run = new RoomUse();
        String first = each(186, "SETBIT # 2056 1") + "FLUSHALL\n" + each(70, "SETBIT # 4104 1") + "FLUSHALL\n";
        due("first bytes", first.length(), 4114);
        due("first send", run.ask(0, first), 258);
        due("rewrite", run.rewrite(), 0);
        String second = "";
        for (char k = 'a'; k <= 'h'; k++) {
            second += "SETBIT " + k + " 65536 1\n";
        }
        second += "FLUSHALL\n";
        due("second bytes", second.length(), 145);
        due("second send", run.ask(0, second), 9);
        for (int i = 0; i < 140; i++) {
            due("restart", run.restart(0), 9);
        }
        due("calls", run.calls, 499);
        run.end("long texts behind short ones");
    }

    /** Texts became shorter than they were, which each restart does again. */
    private static void shortTextsBehindLongerOnes() {
        RoomUse run = new RoomUse();
        String all = each(159, "SETBIT # 2056 1") + "FLUSHALL\n" + each(159, "SETBIT # 2047 1");
        due("bytes", all.length(), 5097);
        due("send", run.ask(0, all), 319);
        for (int i = 0; i < 127; i++) {
            due("restart", run.restart(0), 319);
        }
        run.end("short texts behind longer ones");
    }

    /** Texts of every length behind those of every other one. */
    private static void lengthsBehindLengths() {
        String[] ways = {"FLUSHALL\n", "", "MULTI\nFLUSHALL\nEXEC\n"};
        for (int first : LENGTHS) {
            for (int second : LENGTHS) {
                for (int way = 0; way < ways.length; way++) {
                    RoomUse run = new RoomUse().send(0, fill(first, 2500) + ways[way] + fill(second, 2500));
                    run.restartsToTheEnd(way == 1).end("texts of " + second + " bytes behind those of " + first);
                }
            }
        }
    }

    /** One length behind the other in one run, the log made anew between, so that each one comes back alone. */
    private static void allLengths(boolean rising) {
        RoomUse run = new RoomUse();
        for (int i = 0; i < LENGTHS.length; i++) {
            int length = LENGTHS[rising ? i : LENGTHS.length - 1 - i];
            run.send(0, fill(length, 350) + "FLUSHALL\n");
            run.restart(0);
            run.open(0);
            run.rewrite();
        }
        run.end("texts of all lengths, rising: " + rising);
    }

    /** Texts that grow, shrink, go and come back by commands alone. */
    private static void byCommands() {
        String[] all = {
            "SETRANGE k# 16383 x\nSET k# v\n", "SETRANGE k 16383 x\nDEL k\nRPUSH # v\n",
            "SETRANGE k 16383 x\nRENAME k #\nSET # v\n", "SETRANGE k # x\nSETRANGE l 1# x\nDEL k l\n",
            "SETRANGE k 9# x\nGETDEL k\n", "SETRANGE k 9# x\nSET k v PX 5\n", "SETRANGE k 9# x\nPEXPIRE k -1\n",
            "SETBIT k# 99999 1\nGETSET k# v\n", "SETBIT k# 9999 1\nSADD s #\nSUNIONSTORE k# s\n", "APPEND k# #######\n",
            "SETRANGE a 16383 x\nRENAME a b\nSETRANGE a 16383 x\nRENAME a c\n", "SETRANGE k# 8192 x\nAPPEND k# x\nDEL k#\n",
            "SETRANGE k# 8192 x\nAPPEND k# x\nINCR n\nDEL k#\nINCR m#\n", "SET # 1\n", "GET #\n",
            "HINCRBY h # 1000000000000000000\n", "SETRANGE k 99## x\nSET k v\n", "SETRANGE k# 4096 x\nMSET k# v l# w\n"};
        for (String line : all) {
            new RoomUse().send(0, lines(line, 10000)).end(line);
            new RoomUse().send(0, lines(line, 5000)).restartsToTheEnd(false).end(line + " and restarts");
            new RoomUse().send(0, lines(line, 5000)).restartsToTheEnd(true).end(line + " and restarts that rewrite");
            RoomUse torn = new RoomUse().send(0, lines(line, 5000));
            while (torn.calls + 4 <= CALLS_MOST) {
                torn.restart(40);
            }
            torn.end(line + " and torn logs");
        }
    }

    /** Keys of other sorts, as copies of long ones and as those that move to other places at each restart. */
    private static void otherSorts() {
        String set = row("SADD s", "#", 640);
        for (int members : new int[] {65, 129, 257, 513, 640}) {
            String first = row("SADD s", "#", members);
            new RoomUse().send(0, first + lines("SUNIONSTORE # s\nSET # 1\n", 10000 - first.length())).end("many copies");
        }
        new RoomUse().send(0, set + set.replace("SADD s", "SADD t") + lines("SUNIONSTORE # s\nDEL #\n", 5000)).end("copies");
        String[] rows = {row("RPUSH z", "x", 900) + row("RPUSH z", "x", 900), set.replace("SADD s", "SADD z"),
            row("ZADD z", "1 #", 390) + row("ZADD z", "2 !#", 320), row("HSET z", "# x", 390) + row("HSET z", "!# x", 320)};
        for (String all : rows) {
            RoomUse run = new RoomUse().send(0, lines("SET # v PX 1#\n", 1500) + all);
            run.pass(9);
            while (run.calls + 4 <= CALLS_MOST) {
                run.pass(1);
                run.restart(0);
                run.rewrite();
            }
            run.end("a long value at ever other places");
        }
        String mixed = lines("HSET h# # #\nZADD z # #\nRPUSH l# # #\nSADD s# #\nAPPEND t #\n", 5000);
        new RoomUse().send(0, mixed).restartsToTheEnd(false).end("restarts of all sorts");
        new RoomUse().send(0, mixed).restartsToTheEnd(true).end("restarts of all sorts that rewrite");
    }

    /** Outputs, logs, texts and cells that grow by small steps till they are about as long as they can be in one run. */
    private static void allFull() {
        RoomUse run = new RoomUse();
        StringBuilder texts = new StringBuilder();
        for (int length = 16; length <= 8192; length *= 2) {
            texts.append("SETBIT a " + 8 * length + " 1\nSETBIT b " + 8 * length + " 1\nDEL a\n");
        }
        run.send(0, texts + "DEL b\n" + each(4, "SETRANGE # 14900 x"));
        for (int i = 0; i < 4; i++) {
            StringBuilder reads = new StringBuilder();
            for (int length = 32; length < 14900; length *= 2) {
                reads.append("GETRANGE " + key(0) + " 0 " + length + "\n");
            }
            run.send(i, reads + each(2, "GET #"));
        }
        run.rewrite();
        run.rewrite();
        run.restart(0);
        run.open(0);
        run.send(0, each(4, "DEL #") + row("ZADD z", "1 #", 390) + row("ZADD z", "1 !#", 320) + "DEL z\n");
        run.send(0, row("MULTI\nSADD s", "#", 300) + each(3, "SETRANGE # 14900 x") + "EXEC\n");
        run.restartsToTheEnd(true).end("all full");
    }

    private static String word(Random random) {
        return Integer.toString(random.nextInt(1296), 36);
    }

    private static String some(Random random) {
        int many = 1 + random.nextInt(random.nextInt(4) == 0 ? 250 : 20);
        int bits = Math.min(131071, (8 << random.nextInt(15)) + random.nextInt(1000));
        String name = word(random);
        switch (random.nextInt(13)) {
            case 0:
            case 1:
                return each(many, "SETBIT # " + bits + " 1");
            case 2:
                return each(many, "SETRANGE # " + bits / 8 + " x\nSET # #");
            case 3:
                return each(many, "GET #");
            case 4:
                return each(many, "GETDEL #");
            case 5:
                return each(many, "PEXPIRE # " + random.nextInt(1000));
            case 6:
                return row("SADD s", "#", many) + each(many, "SUNIONSTORE # s " + name);
            case 7:
                return row("RPUSH l", "x", many) + each(many, "RPOPLPUSH l #");
            case 8:
                return row("ZADD " + name, "1 #", many) + row("HSET h" + name, "# x", many);
            case 9:
                return each(many, "HINCRBY h # 1" + bits);
            case 10:
                return each(many, "RENAME # " + name + "\nAPPEND # " + name);
            case 11:
                return "MULTI\n" + each(Math.min(many, 100), "SETBIT # " + bits + " 1\nGET #") + "EXEC\n";
            default:
                return "FLUSHALL\n";
        }
    }

    /** Calls by chance, up to the last one that a run has. */
    private static void byChance(long seed) {
        Random random = new Random(seed);
        RoomUse run = new RoomUse();
        for (int i = 0; i < 2000 && run.calls + 6 <= CALLS_MOST; i++) {
            int c = random.nextInt(4);
            int turn = random.nextInt(12);
            if (turn == 0) {
                run.rewrite();
            } else if (turn < 3) {
                run.restart(random.nextInt(3) == 0 ? random.nextInt(run.steward.log() + 1) : 0);
                run.open(c);
            } else if (turn == 3) {
                run.pass(random.nextInt(300));
            } else if (turn == 4) {
                run.open(c);
            } else if (turn == 5) {
                run.empty(c);
            } else {
                String text = some(random);
                if (run.calls + callsFor(text) <= CALLS_MOST) {
                    run.send(c, text);
                }
            }
        }
        run.end("seed " + seed);
    }

    public static void main(String[] args) {
        long before = made();
        byte[] row = new byte[100000];
        due("what is made is measured", made() - before >= row.length ? 1 : 0, 1);
        longTextsBehindShortOnes();
        shortTextsBehindLongerOnes();
        lengthsBehindLengths();
        allLengths(true);
        allLengths(false);
        byCommands();
        otherSorts();
        allFull();
        for (long seed = 1; seed <= 500; seed++) {
            byChance(seed);
        }
        if (args.length > 0) {
            System.out.println("the dearest run made " + dearest + " bytes");
        }
        System.exit(wrong == 0 ? 0 : 1);
    }
}
