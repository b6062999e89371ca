/** Promises 16 and 17: the secrets and the states of ENDS. */
public final class AnswersTest {
    private static final int NONE = SecretEnds.NONE;

    private AnswersTest() {
    }

    public static void main(String[] args) {
        secretsOfAHandshake();
        secretRefuses();
        secretsStayWithOneFailed();
        connectionsDoNotMix();
        statesOfAHandshake();
        numbersOfAHandshake();
        statesOfAlerts();
        stateRefuses();
        Check.finish();
    }

    private static byte[] upToServerHello() {
        return Crypto.join(Crypto.clientHello(Bench.PSK, Bench.NAME, Bench.CLIENT_RANDOM),
            Crypto.serverHello(Bench.SERVER_RANDOM));
    }

    private static byte[] hand(String who) {
        return Crypto.expand(Crypto.hand(Bench.PSK), who + " hs traffic", Crypto.sha(upToServerHello()));
    }

    private static byte[] main(String who) {
        byte[] log = Crypto.join(upToServerHello(), Crypto.extensions());
        log = Crypto.join(log, Crypto.finished(hand("s"), log));
        return Crypto.expand(Crypto.main(Bench.PSK), who + " ap traffic", Crypto.sha(log));
    }

    private static void dueSecrets(String when, Bench b, int end, byte[] writes, byte[] reads) {
        Check.dueBytes(when + ": END " + end + " writes by", b.secretBytes(end, 0), writes);
        Check.dueBytes(when + ": END " + end + " reads by", b.secretBytes(end, 1), reads);
    }

    private static void secretsOfAHandshake() {
        Bench b = Bench.answered();
        dueSecrets("answered", b, 1, main("s"), hand("c"));
        Check.due("the client has none to write by", b.x.secret(0, 0, 0), NONE);
        Check.due("nor to read by", b.x.secret(0, 1, 0), NONE);
        b.x.carry(1, 0);
        dueSecrets("state 2", b, 0, hand("c"), hand("s"));
        b.x.carry(1, 0);
        dueSecrets("state 3", b, 0, hand("c"), hand("s"));
        Bench c = Bench.connected();
        dueSecrets("CONNECTED", c, 0, main("c"), main("s"));
        dueSecrets("CONNECTED", c, 1, main("s"), main("c"));
    }

    private static void secretRefuses() {
        Bench b = Bench.connected();
        for (int i : new int[] {-1, 32, 33, Integer.MAX_VALUE, Integer.MIN_VALUE}) {
            Check.due("secret(0, 0, " + i + ")", b.x.secret(0, 0, i), NONE);
            Check.due("secret(1, 1, " + i + ")", b.x.secret(1, 1, i), NONE);
        }
        for (int what : new int[] {-1, 2, Integer.MAX_VALUE}) {
            Check.due("secret(0, " + what + ", 0)", b.x.secret(0, what, 0), NONE);
        }
        for (int end : new int[] {-1, 2, 4, Integer.MAX_VALUE}) {
            Check.due("secret(" + end + ", 0, 0)", b.x.secret(end, 0, 0), NONE);
        }
        Bench c = Bench.started();
        Check.due("a server that waits has none", c.x.secret(1, 0, 0), NONE);
        Check.due("nor to read by", c.x.secret(1, 1, 31), NONE);
    }

    private static void secretsStayWithOneFailed() {
        Bench b = Bench.connected();
        b.giveBytes(1, Crypto.bytes(0));
        dueSecrets("FAILED", b, 1, main("s"), main("c"));
        Bench c = Bench.waiting();
        c.giveBytes(0, Crypto.bytes(0));
        dueSecrets("FAILED in state 3", c, 0, hand("c"), hand("s"));
    }

    /** Two connections by turns, with the tape's hash asked for between. */
    private static void connectionsDoNotMix() {
        Bench b = Bench.told();
        b.x.make(true);
        b.x.make(false);
        byte[] psk = Bench.row(33, 60);
        b.tellAll(2, psk, Bench.row(16, 1), Bench.row(32, 5));
        b.tellAll(3, psk, Bench.row(16, 1), Bench.row(32, 9));
        for (int end = 0; end < 4; end++) {
            b.x.start(end);
        }
        int[][] ways = {{0, 1}, {3, 2}, {1, 0}, {2, 3}, {1, 0}, {2, 3}, {1, 0}, {2, 3}, {0, 1}, {3, 2}};
        for (int[] way : ways) {
            b.put(Bench.row(30, way[0]));
            b.x.hash(0);
            Check.due("carry", b.x.carry(way[0], way[1]) != 7, true);
        }
        dueSecrets("by turns", b, 0, main("c"), main("s"));
        dueSecrets("by turns", b, 1, main("s"), main("c"));
        Check.due("the other server", b.x.state(2, 0), 6);
        Check.dueBytes("the others have the same", b.secretBytes(2, 0), b.secretBytes(3, 1));
        Check.dueBytes("both ways", b.secretBytes(2, 1), b.secretBytes(3, 0));
    }

    private static void statesOfAHandshake() {
        Bench b = Bench.told();
        Check.due("MADE", b.x.state(0, 0), 0);
        b.x.start(0);
        b.x.start(1);
        Check.due("a client that starts", b.x.state(0, 0), 1);
        Check.due("a server that starts", b.x.state(1, 0), 4);
        int[][] ways = {{0, 1, 1, 5}, {1, 0, 2, 5}, {1, 0, 3, 5}, {1, 0, 6, 5}, {0, 1, 6, 6}};
        for (int[] way : ways) {
            b.x.carry(way[0], way[1]);
            Check.due("the client", b.x.state(0, 0), way[2]);
            Check.due("the server", b.x.state(1, 0), way[3]);
        }
        for (int end = 0; end < 2; end++) {
            int[] want = {6, NONE, NONE, 0, 0, 0, 0, 0, 0, end};
            for (int what = 0; what < want.length; what++) {
                Check.due("state(" + end + ", " + what + ") CONNECTED", b.x.state(end, what), want[what]);
            }
        }
    }

    private static void dueNumbers(String when, Bench b, int end, int written, int read) {
        Check.due(when + ": END " + end + " writes number", b.x.state(end, 5), written);
        Check.due(when + ": END " + end + " reads number", b.x.state(end, 6), read);
    }

    private static void numbersOfAHandshake() {
        Bench b = Bench.started();
        dueNumbers("started", b, 0, 0, 0);
        b.x.carry(0, 1);
        dueNumbers("behind its FINISHED", b, 1, 0, 0);
        b.x.carry(1, 0);
        dueNumbers("state 2", b, 0, 0, 0);
        b.x.carry(1, 0);
        dueNumbers("state 3", b, 0, 0, 1);
        b.giveBytes(0, Crypto.record(20, Crypto.bytes(1)));
        dueNumbers("type 20 does not count", b, 0, 0, 1);
        b.x.carry(1, 0);
        dueNumbers("CONNECTED", b, 0, 0, 0);
        b.sayBytes(0, Crypto.bytes(1));
        b.sayBytes(0, Crypto.bytes(2));
        dueNumbers("two are said", b, 0, 2, 0);
        b.x.carry(0, 1);
        b.x.carry(0, 1);
        dueNumbers("one is read", b, 1, 0, 1);
        b.x.alter(0, 8, 1);
        b.x.carry(0, 1);
        dueNumbers("what is not opened does not count; the alert does", b, 1, 1, 1);
    }

    private static void statesOfAlerts() {
        Bench b = Bench.connected();
        b.x.meddle(0, 1);
        b.giveBytes(1, Crypto.bytes(23, 3, 3, 255, 255));
        Check.due("its alert", b.x.state(1, 1), 22);
        Check.due("it read none", b.x.state(1, 2), NONE);
        b.x.carry(1, 0);
        Check.due("FAILED by an ALERT", b.x.state(0, 0), 7);
        Check.due("it came to no alert", b.x.state(0, 1), NONE);
        Check.due("the ALERT's second byte", b.x.state(0, 2), 22);
        Check.due("the other side has not closed", b.x.state(0, 8), 0);
        Check.due("no alert in turn", b.x.state(0, 3), 0);
    }

    private static void stateRefuses() {
        Bench b = Bench.connected();
        for (int what : new int[] {-1, 10, 11, Integer.MAX_VALUE, Integer.MIN_VALUE}) {
            Check.due("state(0, " + what + ")", b.x.state(0, what), NONE);
        }
        for (int end : new int[] {-1, 2, 3, 4, Integer.MAX_VALUE, Integer.MIN_VALUE}) {
            for (int what = 0; what < 10; what++) {
                Check.due("state(" + end + ", " + what + ")", b.x.state(end, what), NONE);
            }
        }
    }
}
