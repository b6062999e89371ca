import java.nio.charset.StandardCharsets;
import java.util.Arrays;

/** An object of the program with what tests do with it again and again. */
final class Bench {
    static final int CLIENT = 0;
    static final int SERVER = 1;
    static final byte[] PSK = row(20, 1);
    static final byte[] NAME = "deck".getBytes(StandardCharsets.ISO_8859_1);
    static final byte[] CLIENT_RANDOM = row(32, 0);
    static final byte[] SERVER_RANDOM = row(32, 100);

    /** Every state with the ENDS of a pair that come to it: a state, then the END's number. */
    static final int[][] PLACES = {
        {0, CLIENT}, {0, SERVER}, {1, CLIENT}, {2, CLIENT}, {3, CLIENT}, {4, SERVER}, {5, SERVER},
        {6, CLIENT}, {6, SERVER}, {7, CLIENT}, {7, SERVER}
    };
    /** Numbers that are no END's where two are made: the next one, and those around 0 .. 3. */
    static final int[] NO_ENDS = {2, 3, 4, 5, -1, -2, Integer.MAX_VALUE, Integer.MIN_VALUE};

    final Counted x = new Counted();

    /** n bytes that count up from the first. */
    static byte[] row(int n, int first) {
        byte[] all = new byte[n];
        for (int i = 0; i < n; i++) {
            all[i] = (byte) (first + i);
        }
        return all;
    }

    /** A client 0 and a server 1 that are told the same, not started. */
    static Bench told() {
        Bench bench = new Bench();
        bench.x.make(false);
        bench.x.make(true);
        bench.tellAll(CLIENT, PSK, NAME, CLIENT_RANDOM);
        bench.tellAll(SERVER, PSK, NAME, SERVER_RANDOM);
        return bench;
    }

    static Bench started() {
        Bench bench = told();
        bench.x.start(CLIENT);
        bench.x.start(SERVER);
        return bench;
    }

    /** The server has answered: 5; the client has read nothing yet: 1. */
    static Bench answered() {
        Bench bench = started();
        Check.due("the server reads CLIENTHELLO", bench.x.carry(CLIENT, SERVER), 5);
        return bench;
    }

    /** The client waits for FINISHED: 3; the server: 5. */
    static Bench waiting() {
        Bench bench = answered();
        Check.due("the client reads SERVERHELLO", bench.x.carry(SERVER, CLIENT), 2);
        Check.due("the client reads EXTENSIONS", bench.x.carry(SERVER, CLIENT), 3);
        return bench;
    }

    static Bench connected() {
        Bench bench = told();
        bench.shakeHands(CLIENT, SERVER);
        return bench;
    }

    /** Two pairs CONNECTED: all the ENDS that there may be. */
    static Bench four() {
        Bench bench = connected();
        bench.x.make(false);
        bench.x.make(true);
        bench.tellAll(2, PSK, NAME, row(32, 5));
        bench.tellAll(3, PSK, NAME, row(32, 9));
        bench.shakeHands(2, 3);
        return bench;
    }

    /** A client and a server that are told the same start and come to CONNECTED. */
    void shakeHands(int client, int server) {
        Check.due("the client starts", x.start(client), true);
        Check.due("the server starts", x.start(server), true);
        Check.due("the server reads CLIENTHELLO", x.carry(client, server), 5);
        Check.due("the client reads SERVERHELLO", x.carry(server, client), 2);
        Check.due("the client reads EXTENSIONS", x.carry(server, client), 3);
        Check.due("the client reads FINISHED", x.carry(server, client), 6);
        Check.due("the server reads FINISHED", x.carry(client, server), 6);
    }

    /** A pair of which this END is in this state: one of PLACES. */
    static Bench in(int state, int end) {
        Bench bench = begun(state);
        if (state == 7) {
            Check.due("nothing is given", bench.giveBytes(end, Crypto.NOTHING), 7);
        }
        Check.due("the state that was to come", bench.x.state(end, 0), state);
        return bench;
    }

    private static Bench begun(int state) {
        switch (state) {
            case 0:
                return told();
            case 1:
            case 4:
                return started();
            case 2:
                Bench bench = answered();
                Check.due("the client reads SERVERHELLO", bench.x.carry(SERVER, CLIENT), 2);
                return bench;
            case 3:
                return waiting();
            case 5:
                return answered();
            default:
                return connected();
        }
    }

    /** A pair CONNECTED of which this END has said so often, one byte each time. */
    static Bench said(int end, int times) {
        Bench bench = connected();
        for (int i = 0; i < times; i++) {
            Check.due("say", bench.sayBytes(end, Crypto.bytes(i + 1)), i + 1);
        }
        return bench;
    }

    /** Doubles the first record that lies there until so many do. */
    Bench doubled(int end, int upTo) {
        for (int n = x.state(end, 3); n < upTo; n++) {
            Check.due("double", x.meddle(end, 1), true);
        }
        return this;
    }

    void tellAll(int end, byte[] psk, byte[] name, byte[] random) {
        put(psk);
        Check.due("tell(" + end + ", 0)", x.tell(end, 0), true);
        put(name);
        Check.due("tell(" + end + ", 1)", x.tell(end, 1), true);
        put(random);
        Check.due("tell(" + end + ", 2)", x.tell(end, 2), true);
    }

    /** The tape has just these bytes then. */
    void put(byte[] bytes) {
        feedAll(x, bytes);
    }

    static void feedAll(Counted x, byte[] bytes) {
        x.end(0);
        for (int at = 0; at < bytes.length; at += 20) {
            byte[] part = Arrays.copyOfRange(bytes, at, at + 20);
            x.feed(word(part, 0), word(part, 4), word(part, 8), word(part, 12), word(part, 16));
        }
        Check.due("end(" + bytes.length + ")", x.end(bytes.length), bytes.length);
    }

    private static int word(byte[] part, int at) {
        return (part[at] & 255) << 24 | (part[at + 1] & 255) << 16 | (part[at + 2] & 255) << 8 | (part[at + 3] & 255);
    }

    int giveBytes(int end, byte[] bytes) {
        put(bytes);
        return x.give(end);
    }

    int sayBytes(int end, byte[] bytes) {
        put(bytes);
        return x.say(end);
    }

    byte[] writtenRecord(int end, int k) {
        byte[] all = new byte[1000];
        int n = 0;
        for (int next = x.written(end, k, 0); next != SecretEnds.NONE && n < all.length; next = x.written(end, k, n)) {
            all[n] = (byte) next;
            n++;
        }
        return Arrays.copyOf(all, n);
    }

    byte[] givenBytes(int end) {
        byte[] all = new byte[x.state(end, 4)];
        for (int i = 0; i < all.length; i++) {
            all[i] = (byte) x.given(end, i);
        }
        return all;
    }

    byte[] secretBytes(int end, int what) {
        byte[] all = new byte[32];
        for (int i = 0; i < 32; i++) {
            int next = x.secret(end, what, i);
            Check.due("secret(" + end + ", " + what + ", " + i + ") is a byte", next >= 0 && next <= 255, true);
            all[i] = (byte) next;
        }
        return all;
    }

    /** Gives an END a record that is sealed rightly by the keys that it reads by. */
    int giveSealed(int end, byte[] inner) {
        return giveBytes(end, Crypto.seal(secretBytes(end, 1), x.state(end, 6), inner));
    }

    /** What is in record k of an END, by a secret and a number; fails where the seal is not right. */
    byte[] opened(int end, int k, byte[] secret, long number) {
        byte[] inner = Crypto.open(secret, number, writtenRecord(end, k));
        Check.due("the seal of record " + k + " of END " + end + " is right", inner != null, true);
        return inner == null ? new byte[0] : inner;
    }

    /** An END FAILED by what it read, with this alert, and with one record more or not. */
    void dueAlert(String what, int end, int alert) {
        Check.due(what + ": state", x.state(end, 0), 7);
        Check.due(what + ": alert", x.state(end, 1), alert);
        Check.due(what + ": no ALERT was read", x.state(end, 2), SecretEnds.NONE);
    }
}
