import com.sun.management.ThreadMXBean;
import java.lang.management.ManagementFactory;

/** Runs of 512 calls that would take much room must take far less than there is. */
public final class RoomUse {
    /** The room's fields and elements; a byte is the least that one takes. */
    private static final long ROOM = 7300000;

    private static final ThreadMXBean THREADS = (ThreadMXBean) ManagementFactory.getThreadMXBean();
    private static int wrong;

    private KeySteward steward;
    private int calls;
    private long spent;

    private RoomUse() {
        long before = made();
        steward = new KeySteward();
        spent = made() - before;
        calls = 1;
    }

    private static long made() {
        return THREADS.getThreadAllocatedBytes(Thread.currentThread().getId());
    }

    private static int four(String text, int at) {
        int number = 0;
        for (int i = at; i < at + 4; i++) {
            number = number << 8 | (i < text.length() ? text.charAt(i) : 0);
        }
        return number;
    }

    private RoomUse send(int connection, String text) {
        long before = made();
        for (int at = 0; at < text.length(); at += 20) {
            steward.feed(four(text, at), four(text, at + 4), four(text, at + 8), four(text, at + 12), four(text, at + 16));
            calls++;
        }
        steward.end(text.length());
        steward.send(connection);
        calls += 2;
        spent += made() - before;
        return this;
    }

    private RoomUse restart(boolean rewrites) {
        long before = made();
        steward.crash();
        steward.restart();
        calls += 2;
        if (rewrites) {
            steward.rewrite();
            calls++;
        }
        spent += made() - before;
        return this;
    }

    private void end(String what) {
        if (calls > 512 || spent > ROOM) {
            wrong++;
            System.out.println(what + ": " + calls + " calls took " + spent + " bytes");
        }
    }

    /** Lines up to so many bytes, # being a number that grows. */
    private static String lines(String line, int bytes) {
        StringBuilder all = new StringBuilder();
        int i = 0;
        String next = line.replace("#", "0");
        while (all.length() + next.length() <= bytes) {
            all.append(next);
            i++;
            next = line.replace("#", "" + i);
        }
        return all.toString();
    }

    private static void longRuns() {
        new RoomUse().send(0, lines("SETRANGE k# 16383 x\nSET k# v\n", 10000)).end("long texts that shrink");
        new RoomUse().send(0, lines("SETRANGE k 16383 x\nDEL k\nRPUSH # v\n", 10000)).end("long texts that go");
        new RoomUse().send(0, lines("SETRANGE k 16383 x\nRENAME k #\nSET # v\n", 10000)).end("long texts that move");
        new RoomUse().send(0, lines("SET # 1\n", 10000)).end("many keys");
        new RoomUse().send(0, lines("GET #\n", 10000)).end("many words");
        new RoomUse().send(0, lines("HINCRBY h # 1000000000000000000\n", 10000)).end("many fields");
        StringBuilder set = new StringBuilder("SADD s");
        for (int i = 0; i < 650; i++) {
            set.append(" ").append((char) (33 + i / 90)).append((char) (33 + i % 90));
        }
        new RoomUse().send(0, set + "\n" + lines("SUNIONSTORE # s\nSET # 1\n", 8000)).end("many sets");
        RoomUse outputs = new RoomUse();
        for (int i = 0; i < 4; i++) {
            outputs.send(i, "SETRANGE k 16300 x\n" + lines("GET k\n", 2000));
        }
        outputs.end("full outputs");
    }

    private static void restarts() {
        String all = lines("HSET h# # #\nZADD z # #\nRPUSH l# # #\nSADD s# #\nAPPEND t #\n", 5000);
        for (int rewrites = 0; rewrites < 2; rewrites++) {
            RoomUse mixed = new RoomUse().send(0, all);
            RoomUse texts = new RoomUse().send(0, lines("SETRANGE k # x\nDEL k\n", 4000)
                    + "SETRANGE a 16383 x\nSETRANGE b 16383 x\nSETRANGE c 16383 x\nSETRANGE d 16383 x\n");
            for (int i = 0; i < 80; i++) {
                mixed.restart(rewrites == 1);
                texts.restart(rewrites == 1);
            }
            mixed.end("restarts of all sorts");
            texts.end("restarts of texts");
        }
    }

    public static void main(String[] args) {
        longRuns();
        restarts();
        System.exit(wrong == 0 ? 0 : 1);
    }
}
