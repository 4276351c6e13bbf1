/** Runs by chance, each call of which must answer what the plain model answers. */
public final class RandomRuns {
    private static int wrong;

    private final long seed;
    private final Chance chance;
    private final Client client = new Client();
    private final Model model = new Model();
    private String last = "";

    private RandomRuns(long seed) {
        this.seed = seed;
        chance = new Chance(seed, seed % 3 == 0);
    }

    private boolean due(String what, Object got, Object want) {
        if (got.equals(want)) {
            return true;
        }
        wrong++;
        System.out.println("seed " + seed + ": behind " + Client.shown(last) + ": " + what + " is\n  "
                + Client.shown("" + got) + "\ndue is\n  " + Client.shown("" + want));
        return false;
    }

    private boolean same() {
        boolean same = due("isUp", client.steward.isUp(), model.up)
                && due("now", client.steward.now(), model.now)
                && due("log", client.steward.log(), model.log.length());
        for (int i = 0; i < 3 && same; i++) {
            same = due("total " + i, client.steward.total(i), model.total(i));
        }
        for (int i = 0; i < 4 && same; i++) {
            same = due("isOpen " + i, client.steward.isOpen(i), model.conns[i].open)
                    && due("out " + i, client.output(i), model.conns[i].output.toString());
        }
        return same;
    }

    private boolean sameLog() {
        return due("log", client.log(), model.log.toString());
    }

    private boolean send(int connection, String bytes) {
        last = "send " + connection + " " + bytes;
        int got = client.send(connection, bytes);
        return due("send", got, model.send(connection, bytes));
    }

    private boolean sendSome() {
        int connection = chance.random.nextInt(4);
        StringBuilder bytes = new StringBuilder();
        for (int i = chance.random.nextInt(4); i >= 0; i--) {
            bytes.append(chance.request());
        }
        if (chance.in(300)) {
            bytes.setCharAt(chance.random.nextInt(bytes.length()), (char) chance.random.nextInt(256));
        }
        if (!chance.in(4)) {
            return send(connection, bytes.toString());
        }
        int cut = chance.random.nextInt(bytes.length() + 1);
        return send(connection, bytes.substring(0, cut)) && same() && send(connection, bytes.substring(cut));
    }

    private boolean takeSome() {
        for (int i = 0; i < 4; i++) {
            int size = model.conns[i].output.length();
            int n = chance.in(3) ? chance.random.nextInt(size + 1) : size;
            last = "take " + i + " " + n;
            model.conns[i].output.delete(0, n);
            if (!due("take", client.steward.take(i, n), true)) {
                return false;
            }
        }
        return true;
    }

    private boolean restart() {
        int n = chance.in(3) ? chance.random.nextInt(model.log.length() + 1) : model.log.length();
        last = "tear " + n;
        if (!due("tear", client.steward.tear(n), model.tear(n))) {
            return false;
        }
        last += ", restart";
        boolean same = due("restart", client.steward.restart(), model.restart()) && same();
        for (int i = 0; i < 4; i++) {
            same = same && due("open", client.steward.open(i), model.open(i));
        }
        return same && sameLog();
    }

    private boolean act() {
        int turn = chance.random.nextInt(200);
        if (!model.up && turn < 120) {
            return restart();
        }
        if (turn < 12) {
            long by = chance.in(20) ? 1L << chance.random.nextInt(60) : chance.random.nextInt(3000);
            last = "pass " + by;
            return due("pass", client.steward.pass(by), model.pass(by));
        }
        if (turn == 12) {
            last = "crash";
            return due("crash", client.steward.crash(), model.crash());
        }
        if (turn == 13) {
            int bytes = chance.random.nextInt(500) - 50;
            last = "fuse " + bytes;
            client.steward.fuse(bytes);
            model.fuse = bytes < 0 ? -1 : bytes;
            return true;
        }
        if (turn == 14) {
            last = "rewrite";
            return due("rewrite", client.steward.rewrite(), model.rewrite()) && sameLog();
        }
        if (turn < 18) {
            int c = chance.random.nextInt(4);
            last = "open " + c;
            return due("open", client.steward.open(c), model.open(c));
        }
        if (turn < 40) {
            return takeSome();
        }
        return sendSome();
    }

    private void run(int steps) {
        for (int i = 0; i < steps; i++) {
            if (!act() || !same()) {
                return;
            }
        }
        sameLog();
    }

    public static void main(String[] args) {
        long first = args.length > 0 ? Long.parseLong(args[0]) : 1;
        int runs = args.length > 1 ? Integer.parseInt(args[1]) : 300;
        for (long seed = first; seed < first + runs && wrong < 5; seed++) {
            new RandomRuns(seed).run(400);
        }
        System.exit(wrong == 0 ? 0 : 1);
    }
}
