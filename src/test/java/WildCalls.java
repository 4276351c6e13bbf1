import java.util.NoSuchElementException;
import java.util.Random;

/** Calls with any arguments in any state: nothing is thrown but what the document says, and wild bytes are read as due. */
public final class WildCalls {
    private static final int[] NUMBERS = {0, 1, 2, 3, 4, -1, -2, 5, 20, 100, 65535, 65536, 65540, Integer.MAX_VALUE, Integer.MIN_VALUE};
    private static final String SIGNS = "**$$$0111234-\r\n\r\n\r\n\r\n PINGSETkv\u00ff";
    private static final String[] PIECES = {"*1\r\n", "*2\r\n", "*3\r\n", "$4\r\n", "$3\r\n", "$1\r\n", "PING\r\n", "SET\r\n", "k\r\n", "$0\r\n\r\n",
        "PING\n", "SET k v\n", "*0\r\n", "*-1\r\n", "$-1\r\n", "MULTI\n", "EXEC\n", "$2\r\nk", "\r\n", "DEL k\r\n"};

    private static int wrong;

    private static void due(String what, Object got, Object want) {
        if (!got.equals(want)) {
            wrong++;
            System.out.println(what + ": is " + Client.shown("" + got) + ", due is " + Client.shown("" + want));
        }
    }

    private static int number(Random random) {
        return random.nextInt(3) == 0 ? random.nextInt() : NUMBERS[random.nextInt(NUMBERS.length)];
    }

    private static void call(KeySteward s, Random random) {
        int a = number(random);
        int b = number(random);
        switch (random.nextInt(20)) {
            case 0:
                s.end(a);
                break;
            case 1:
                s.send(a);
                break;
            case 2:
                s.open(a);
                break;
            case 3:
                s.isOpen(a);
                break;
            case 4:
                s.out(a);
                break;
            case 5:
                boolean there = a >= 0 && a < 4 && b >= 0 && b < s.out(a);
                try {
                    s.outAt(a, b);
                    due("outAt " + a + " " + b, true, there);
                } catch (NoSuchElementException e) {
                    due("outAt " + a + " " + b, false, there);
                }
                break;
            case 6:
                s.take(a, b);
                break;
            case 7:
                s.pass(random.nextInt(3) == 0 ? random.nextLong() : a);
                break;
            case 8:
                s.now();
                break;
            case 9:
                s.fuse(a);
                break;
            case 10:
                s.crash();
                break;
            case 11:
                s.restart();
                break;
            case 12:
                s.rewrite();
                break;
            case 13:
                boolean logged = a >= 0 && a < s.log();
                try {
                    s.logAt(a);
                    due("logAt " + a, true, logged);
                } catch (NoSuchElementException e) {
                    due("logAt " + a, false, logged);
                }
                break;
            case 14:
                s.tear(a);
                break;
            case 15:
                s.isUp();
                break;
            case 16:
                s.total(a);
                break;
            default:
                s.feed(a, b, number(random), random.nextInt(), random.nextInt());
                break;
        }
    }

    private static String wild(Random random) {
        StringBuilder all = new StringBuilder();
        int many = random.nextInt(12);
        for (int i = 0; i < many; i++) {
            if (random.nextInt(3) > 0) {
                all.append(PIECES[random.nextInt(PIECES.length)]);
            } else {
                all.append(SIGNS.charAt(random.nextInt(SIGNS.length())));
            }
        }
        return all.toString();
    }

    private static void wildBytes(long seed) {
        Random random = new Random(seed);
        Client client = new Client();
        Model model = new Model();
        for (int i = 0; i < 60; i++) {
            int connection = random.nextInt(4);
            String bytes = wild(random);
            due("send " + Client.shown(bytes), client.send(connection, bytes), model.send(connection, bytes));
            due("out behind " + Client.shown(bytes), client.output(connection), model.conns[connection].output.toString());
            due("open behind " + Client.shown(bytes), client.steward.isOpen(connection), model.conns[connection].open);
            if (!model.conns[connection].open && random.nextBoolean()) {
                client.steward.open(connection);
                model.open(connection);
            }
        }
        due("log", client.log(), model.log.toString());
    }

    public static void main(String[] args) {
        for (long seed = 1; seed <= 3000 && wrong < 5; seed++) {
            Random random = new Random(seed);
            KeySteward steward = new KeySteward();
            for (int i = 0; i < 512; i++) {
                call(steward, random);
            }
            wildBytes(seed);
        }
        System.exit(wrong == 0 ? 0 : 1);
    }
}
