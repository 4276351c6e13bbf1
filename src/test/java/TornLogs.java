import java.util.ArrayList;
import java.util.List;

/** Logs torn at each of their bytes, and disks that take no more at each of them. */
public final class TornLogs {
    private static int wrong;

    private static void due(String what, Object got, Object want) {
        if (!got.equals(want)) {
            wrong++;
            System.out.println(what + " is\n  " + Client.shown("" + got) + "\ndue is\n  " + Client.shown("" + want));
        }
    }

    private static List<String> requests(long seed, int many) {
        Chance chance = new Chance(seed, false);
        List<String> all = new ArrayList<>();
        for (int i = 0; i < many; i++) {
            List<String> words = chance.words();
            if (!words.get(0).equals("SETRANGE") && !words.get(0).equalsIgnoreCase("QUIT")) {
                all.add(chance.bytes(words));
            }
        }
        return all;
    }

    private static Client ran(List<String> requests) {
        Client client = new Client();
        run(client, requests);
        return client;
    }

    private static void run(Client client, List<String> requests) {
        for (int i = 0; i < requests.size(); i++) {
            client.send(i % 7 == 0 ? 1 : 0, requests.get(i));
            client.steward.take(0, client.steward.out(0));
            if (i % 10 == 9) {
                client.steward.pass(700);
            }
        }
    }

    /** What a server has behind a restart of a log, as the model says it. */
    private static Model modelOf(String log, long now) {
        Model model = new Model();
        model.now = now;
        model.crash();
        model.log = new StringBuilder(log);
        model.restart();
        return model;
    }

    private static void compare(String what, Client client, String left, long now) {
        Model model = new Model();
        model.now = now;
        model.crash();
        model.log = new StringBuilder(left);
        due(what + " restart", client.steward.restart(), model.restart());
        due(what + " log", client.log(), model.log.toString());
        for (int i = 0; i < 3; i++) {
            due(what + " total " + i, client.steward.total(i), model.total(i));
        }
        client.steward.rewrite();
        model.rewrite();
        due(what + " state", client.log(), model.log.toString());
    }

    private static void tearEverywhere(long seed) {
        List<String> requests = requests(seed, 60);
        Client whole = ran(requests);
        String log = whole.log();
        for (int n = 0; n <= log.length() && wrong < 5; n++) {
            Client client = ran(requests);
            client.steward.crash();
            due("tear", client.steward.tear(n), true);
            compare("seed " + seed + " torn at " + n, client, log.substring(0, n), whole.steward.now());
        }
    }

    private static void burnEverywhere(long seed) {
        List<String> requests = requests(seed, 60);
        String log = ran(requests).log();
        for (int n = 0; n < log.length() && wrong < 5; n++) {
            Client client = new Client();
            client.steward.fuse(n);
            run(client, requests);
            String what = "seed " + seed + " fuse " + n;
            due(what + " isUp", client.steward.isUp(), false);
            due(what + " log", client.log(), log.substring(0, n));
            compare(what, client, log.substring(0, n), client.steward.now());
        }
        Client client = new Client();
        client.steward.fuse(log.length());
        run(client, requests);
        due("a fuse that just lasts", client.steward.isUp(), true);
        due("its log", client.log(), log);
    }

    /** Whatever the log, a restart of the whole of it brings the state back that was there. */
    private static void comesBack(long seed) {
        List<String> requests = requests(seed, 200);
        Client client = ran(requests);
        int keys = client.steward.total(0);
        int memory = client.steward.total(1);
        int timed = client.steward.total(2);
        String log = client.log();
        client.steward.crash();
        client.steward.restart();
        due("seed " + seed + " log behind a restart", client.log(), log);
        due("seed " + seed + " keys", client.steward.total(0), keys);
        due("seed " + seed + " memory", client.steward.total(1), memory);
        due("seed " + seed + " timed", client.steward.total(2), timed);
        Client same = ran(requests);
        same.steward.rewrite();
        String state = same.log();
        client.steward.rewrite();
        due("seed " + seed + " state", client.log(), state);
        client.steward.crash();
        client.steward.restart();
        due("seed " + seed + " memory behind a rewrite", client.steward.total(1), memory);
        client.steward.rewrite();
        due("seed " + seed + " state behind a rewrite", client.log(), state);
        due("seed " + seed + " model", modelOf(log, client.steward.now()).total(1), memory);
    }

    public static void main(String[] args) {
        for (long seed = 1; seed <= 4 && wrong < 5; seed++) {
            tearEverywhere(seed);
            burnEverywhere(seed);
        }
        for (long seed = 1; seed <= 200 && wrong < 5; seed++) {
            comesBack(seed);
        }
        System.exit(wrong == 0 ? 0 : 1);
    }
}
