/** The forms of a request, and each fault as soon as it shows. */
public final class Requests {
    private static final Check CHECK = new Check();

    private static void answers(String bytes, String want, int done) {
        Client client = new Client();
        CHECK.due("send " + Client.shown(bytes), client.send(0, bytes), done);
        CHECK.due(Client.shown(bytes), Client.shown(client.output(0)), want);
        CHECK.due(Client.shown(bytes) + " leaves it open", client.steward.isOpen(0), !want.contains("protocol"));
        // Byte by byte the same must come of it.
        Client slow = new Client();
        for (int i = 0; i < bytes.length(); i++) {
            slow.send(0, bytes.substring(i, i + 1));
        }
        CHECK.due(Client.shown(bytes) + " byte by byte", Client.shown(slow.output(0)), want);
    }

    private static void waits(String bytes) {
        answers(bytes, "", 0);
    }

    private static void faults(String bytes, String fault) {
        Client client = new Client();
        client.send(0, bytes.substring(0, bytes.length() - 1));
        CHECK.due("ahead of the fault of " + Client.shown(bytes), client.steward.isOpen(0), true);
        client.send(0, bytes.substring(bytes.length() - 1));
        CHECK.due(Client.shown(bytes), Client.shown(client.output(0)), "-ERR protocol: " + fault + "|");
        CHECK.due("closed by " + Client.shown(bytes), client.steward.isOpen(0), false);
        CHECK.due("count of " + Client.shown(bytes), new Client().send(0, bytes + "PING\r\n"), 0);
    }

    private static void lines() {
        answers("PING\n", "+PONG|", 1);
        answers("PING\r\n", "+PONG|", 1);
        answers("  pInG   x  \r\n", "$1|x|", 1);
        answers("PING x\r\r\n", "$2|x<13>|", 1);
        answers("\n\r\n  \n", "", 0);
        answers("PING\tx\n", "-ERR unknown|", 1);
        answers("$4\r\nPING\n", "-ERR unknown|+PONG|", 2);
        waits("PING");
        waits("PING\r");
        String most = Check.times("a", 2047) + "\n";
        answers(most, "-ERR unknown|", 1);
        waits(Check.times("a", 2047));
        faults(Check.times("a", 2048), "line");
        answers("ECHO" + Check.times(" a", 1021) + "\n", "-ERR arity|", 1);
        answers("EXISTS" + Check.times(" a", 1020) + "\n", ":0|", 1);
    }

    private static void stars() {
        answers("*1\r\n$4\r\nPING\r\n", "+PONG|", 1);
        answers("*000002\r\n$00004\r\nECHO\r\n$0\r\n\r\n", "$0||", 1);
        answers("*2\r\n$4\r\nECHO\r\n$-0\r\n\r\n", "$0||", 1);
        answers("*2\r\n$4\r\necho\r\n$4\r\n\r\n *\r\n", "$4|| *|", 1);
        answers("*0\r\n*-1\r\n*-999999\r\n*-0\r\nPING\n", "+PONG|", 1);
        waits("*1024\r\n");
        waits("*2\r\n$4\r\nECHO\r\n$16384\r\n");
        waits("*");
        waits("*1");
        waits("*-");
        waits("*1\r");
        waits("*1\r\n$");
        waits("*1\r\n$4\r\nPING");
        waits("*1\r\n$4\r\nPING\r");
        waits("*12345678901234");
        waits("*1234567890123\r");
        StringBuilder many = new StringBuilder("*1024\r\n$6\r\nEXISTS\r\n");
        many.append(Check.times("$1\r\nk\r\n", 1023));
        Client client = new Client();
        CHECK.due("1024 words", client.send(0, many.toString()), 1);
        CHECK.due("1024 words", Client.shown(client.output(0)), ":0|");
        String word = Check.times("w", 16384);
        CHECK.due("a long word", client.send(1, Client.star("ECHO", word)), 1);
        CHECK.due("a long word", client.output(1), "$16384\r\n" + word + "\r\n");
    }

    private static void badHeads() {
        faults("*1025\r\n", "count");
        faults("*999999\r\n", "count");
        faults("*1234567\r\n", "count");
        faults("*\r\n", "count");
        faults("*-\r\n", "count");
        faults("*x\r\n", "count");
        faults("*+1\r\n", "count");
        faults("* 1\r\n", "count");
        faults("*1 \r\n", "count");
        faults("*--1\r\n", "count");
        faults("*-1234567\r\n", "count");
        faults("*1\r1\r\n", "count");
        faults("*1\n123456789012\r", "count");
        faults("*12345678901234\r", "count");
        faults("*123456789012345", "count");
        faults("*1\r\n$16385\r\n", "length");
        faults("*1\r\n$-1\r\n", "length");
        faults("*1\r\n$\r\n", "length");
        faults("*1\r\n$x\r\n", "length");
        faults("*1\r\n$1234567\r\n", "length");
        faults("*1\r\n$12345678901234\r", "length");
        faults("*1\r\n$123456789012345", "length");
        faults("*2\r\n$4\r\nECHO\r\n$-1\r\n", "length");
    }

    private static void badBytes() {
        faults("*1\r\nP", "dollar");
        faults("*1\r\n*", "dollar");
        faults("*2\r\n$4\r\nECHO\r\n:", "dollar");
        faults("*1\r\n$4\r\nPINGS", "ending");
        faults("*1\r\n$4\r\nPING\n", "ending");
        faults("*1\r\n$4\r\nPING\rX", "ending");
        faults("*1\r\n$0\r\nX", "ending");
        faults("*3\r\n$4\r\nECHO\r\n$1\r\nab", "ending");
        Client client = new Client();
        CHECK.due("requests ahead of a fault", client.send(0, "PING\n*1\r\n$4\r\nPING\r\n*1\r\nX"), 2);
        CHECK.due("answers ahead of a fault", Client.shown(client.output(0)), "+PONG|+PONG|-ERR protocol: dollar|");
    }

    public static void main(String[] args) {
        lines();
        stars();
        badHeads();
        badBytes();
        CHECK.end();
    }
}
