import java.util.Arrays;

/** Part III, by give (promise 11) and carry (promise 10): every alert, and which comes first. */
public final class ReadingTest {
    private static final int NONE = SecretEnds.NONE;
    private static final byte[] HELLO = Crypto.clientHello(Bench.PSK, Bench.NAME, Bench.CLIENT_RANDOM);

    private ReadingTest() {
    }

    public static void main(String[] args) {
        frames();
        framesComeInOrder();
        changes();
        withoutKeys();
        withKeys();
        seals();
        zerosBehind();
        innerTypes();
        alerts();
        alertsOfOthers();
        wholeMessages();
        kindsWaitedFor();
        clientHelloBodies();
        clientHelloNames();
        clientHelloBinders();
        serverHelloBodies();
        extensionsBodies();
        finishedBodies();
        updateBodies();
        alertsAreSealed();
        deafEnds();
        Check.finish();
    }

    /** An END in a state: 1, 2, 3 and 6 the client, 4 and 5 the server of a pair. */
    private static Bench in(int state) {
        switch (state) {
            case 1:
            case 4:
                return Bench.started();
            case 2:
                Bench b = Bench.answered();
                b.x.carry(1, 0);
                return b;
            case 3:
                return Bench.waiting();
            case 5:
                return Bench.answered();
            default:
                return Bench.connected();
        }
    }

    private static int who(int state) {
        return state == 4 || state == 5 ? 1 : 0;
    }

    /** Bytes that are given to an END in a state bring this alert. */
    private static void dueGiven(String what, int state, byte[] bytes, int alert) {
        Bench b = in(state);
        int end = who(state);
        int lying = b.x.state(end, 3);
        Check.due(what + " in state " + state, b.giveBytes(end, bytes), 7);
        b.dueAlert(what + " in state " + state, end, alert);
        Check.due(what + ": one record more", b.x.state(end, 3), lying + 1);
    }

    /** What is sealed rightly for an END in a state brings this alert. */
    private static void dueSealed(String what, int state, byte[] inner, int alert) {
        Bench b = in(state);
        int end = who(state);
        Check.due(what + " in state " + state, b.giveSealed(end, inner), 7);
        b.dueAlert(what + " in state " + state, end, alert);
    }

    /** A message that is rightly carried to an END in a state: plain in 1 and 4. */
    private static void dueMessage(String what, int state, byte[] message, int alert) {
        if (state == 1 || state == 4) {
            dueGiven(what, state, Crypto.record(22, message), alert);
        } else {
            dueSealed(what, state, Crypto.join(message, Crypto.bytes(22)), alert);
        }
    }

    private static void frames() {
        for (int state = 1; state <= 6; state++) {
            for (int n = 0; n < 5; n++) {
                dueGiven(n + " bytes", state, Arrays.copyOf(Crypto.bytes(22, 3, 3, 0, 0), n), 50);
            }
            dueGiven("22 with 16385", state, Crypto.bytes(22, 3, 3, 0x40, 1), 22);
            dueGiven("22 with 16384", state, Crypto.bytes(22, 3, 3, 0x40, 0), 50);
            dueGiven("20 with 16385", state, Crypto.bytes(20, 3, 3, 0x40, 1), 22);
            dueGiven("99 with 16385", state, Crypto.bytes(99, 3, 3, 0x40, 1), 22);
            dueGiven("23 with 16641", state, Crypto.bytes(23, 3, 3, 0x41, 1), 22);
            dueGiven("23 with 16640", state, Crypto.bytes(23, 3, 3, 0x41, 0), 50);
            dueGiven("23 with 16385", state, Crypto.bytes(23, 3, 3, 0x40, 1), 50);
            dueGiven("22 with 65535", state, Crypto.bytes(22, 3, 3, 255, 255), 22);
            dueGiven("too few", state, Crypto.bytes(22, 3, 3, 0, 2, 9), 50);
            dueGiven("too many", state, Crypto.bytes(22, 3, 3, 0, 1, 9, 9), 50);
            dueGiven("3, 1", state, Crypto.bytes(21, 3, 1, 0, 2, 2, 50), 70);
            dueGiven("2, 3", state, Crypto.bytes(21, 2, 3, 0, 2, 2, 50), 70);
        }
    }

    private static void framesComeInOrder() {
        dueGiven("long, of another number, not 3, 3", 4, Crypto.bytes(20, 1, 1, 255, 255), 22);
        dueGiven("of another number, not 3, 3", 4, Crypto.bytes(20, 1, 1, 0, 1), 50);
        dueGiven("not 3, 3, of type 20", 4, Crypto.bytes(20, 1, 1, 0, 1, 1), 70);
        dueGiven("type 20 where keys are", 6, Crypto.record(20, Crypto.bytes(1)), 10);
    }

    private static void changes() {
        for (int state = 1; state <= 6; state++) {
            byte[] change = Crypto.record(20, Crypto.bytes(1));
            if (state == 4 || state == 6) {
                dueGiven("type 20", state, change, 10);
            } else {
                Bench b = in(state);
                int lying = b.x.state(who(state), 3);
                Check.due("type 20 in state " + state, b.giveBytes(who(state), change), state);
                Check.due("nothing is written", b.x.state(who(state), 3), lying);
                Check.due("no alert", b.x.state(who(state), 1), NONE);
            }
            dueGiven("type 20 with 2", state, Crypto.record(20, Crypto.bytes(2)), 10);
            dueGiven("type 20 with 0", state, Crypto.record(20, Crypto.bytes(0)), 10);
            dueGiven("type 20 with nothing", state, Crypto.record(20, Crypto.NOTHING), 10);
            dueGiven("type 20 with 1, 1", state, Crypto.record(20, Crypto.bytes(1, 1)), 10);
        }
    }

    private static void withoutKeys() {
        for (int state : new int[] {1, 4}) {
            dueGiven("type 23", state, Crypto.record(23, new byte[40]), 10);
            dueGiven("type 23 with nothing", state, Crypto.record(23, Crypto.NOTHING), 10);
            for (int type : new int[] {0, 1, 19, 24, 25, 255}) {
                dueGiven("type " + type, state, Crypto.record(type, Crypto.bytes(1, 0)), 10);
            }
        }
    }

    private static void withKeys() {
        for (int state : new int[] {2, 3, 5, 6}) {
            for (int type : new int[] {0, 19, 21, 22, 24, 255}) {
                dueGiven("type " + type + " where keys are", state, Crypto.record(type, Crypto.bytes(1, 0)), 10);
            }
        }
        dueGiven("a plain EXTENSIONS", 2, Crypto.record(22, Crypto.extensions()), 10);
    }

    private static void seals() {
        for (int state : new int[] {2, 3, 5, 6}) {
            dueGiven("nothing", state, Crypto.record(23, Crypto.NOTHING), 20);
            dueGiven("16 bytes", state, Crypto.record(23, new byte[16]), 20);
            dueGiven("17 bytes", state, Crypto.record(23, new byte[17]), 20);
            Bench b = in(state);
            byte[] secret = b.secretBytes(who(state), 1);
            int number = b.x.state(who(state), 6);
            byte[] inner = Crypto.bytes(2, 80, 21);
            dueGiven("a seal around nothing", state, Crypto.seal(secret, number, Crypto.NOTHING), 20);
            dueGiven("the next number", state, Crypto.seal(secret, number + 1, inner), 20);
            dueGiven("the number with its bytes turned", state, Crypto.seal(secret, number ^ 1L << 24, inner), 20);
            dueGiven("another secret", state, Crypto.seal(Crypto.next(secret), number, inner), 20);
            byte[] right = Crypto.seal(secret, number, inner);
            for (int i = 5; i < right.length; i++) {
                byte[] wrong = right.clone();
                wrong[i] ^= 16;
                dueGiven("byte " + i + " is wrong", state, wrong, 20);
            }
            Check.due("the right one is opened", b.giveBytes(who(state), right), 7);
            Check.due("and read", b.x.state(who(state), 2), 80);
            Check.due("its number counts", b.x.state(who(state), 6), number + 1);
        }
    }

    private static void zerosBehind() {
        for (int state : new int[] {2, 3, 5, 6}) {
            dueSealed("one zero", state, new byte[1], 10);
            dueSealed("many zeros", state, new byte[300], 10);
        }
        Bench b = Bench.connected();
        byte[] inner = Crypto.join(Crypto.bytes(5, 0, 0, 23), new byte[500]);
        Check.due("zeros behind the inner type", b.giveSealed(0, inner), 6);
        Check.dueBytes("zeros ahead of it are given", b.givenBytes(0), Crypto.bytes(5, 0, 0));
        Check.due("no bytes", b.giveSealed(0, Crypto.bytes(23)), 6);
        Check.due("nothing more is given", b.x.state(0, 4), 3);
        Check.due("both count", b.x.state(0, 6), 2);
        Bench c = in(2);
        Check.due("EXTENSIONS with zeros", c.giveSealed(0, Crypto.join(Crypto.extensions(), Crypto.bytes(22, 0))), 3);
    }

    private static void innerTypes() {
        for (int state : new int[] {2, 3, 5, 6}) {
            for (int type : new int[] {1, 19, 24, 255}) {
                dueSealed("inner type " + type, state, Crypto.bytes(1, 0, type), 10);
            }
            dueSealed("inner type 20", state, Crypto.bytes(1, 20), 10);
            if (state != 6) {
                dueSealed("data", state, Crypto.bytes(1, 23), 10);
            }
        }
    }

    private static void alerts() {
        for (int state = 1; state <= 6; state++) {
            boolean plain = state == 1 || state == 4;
            for (int n = 0; n < 4; n++) {
                if (n != 2) {
                    byte[] body = Arrays.copyOf(Crypto.bytes(1, 0, 1), n);
                    if (plain) {
                        dueGiven("an ALERT of " + n, state, Crypto.record(21, body), 50);
                    } else {
                        dueSealed("an ALERT of " + n, state, Crypto.join(body, Crypto.bytes(21)), 50);
                    }
                }
            }
        }
    }

    private static void alertsOfOthers() {
        int[][] all = {{1, 0}, {2, 0}, {1, 90}, {2, 40}, {0, 0}, {255, 255}};
        for (int state = 1; state <= 6; state++) {
            boolean plain = state == 1 || state == 4;
            for (int[] alert : all) {
                Bench b = in(state);
                int end = who(state);
                int lying = b.x.state(end, 3);
                boolean closes = alert[0] == 1 && alert[1] == 0;
                boolean fails = !closes || state != 6;
                byte[] body = Crypto.bytes(alert[0], alert[1]);
                String what = "ALERT " + alert[0] + ", " + alert[1] + " in state " + state;
                int got = plain ? b.giveBytes(end, Crypto.record(21, body))
                    : b.giveSealed(end, Crypto.join(body, Crypto.bytes(21)));
                Check.due(what, got, fails ? 7 : 6);
                Check.due(what + ": no alert of its own", b.x.state(end, 1), NONE);
                Check.due(what + ": the second byte", b.x.state(end, 2), fails ? alert[1] : NONE);
                Check.due(what + ": no alert in turn", b.x.state(end, 3), lying);
                Check.due(what + ": the other side has closed", b.x.state(end, 8), closes ? 1 : 0);
                Check.due(what + ": it has not", b.x.state(end, 7), 0);
            }
        }
    }

    private static void wholeMessages() {
        for (int state = 1; state <= 6; state++) {
            dueMessage("no message", state, Crypto.NOTHING, 50);
            dueMessage("three bytes", state, Crypto.bytes(1, 0, 0), 50);
            dueMessage("one byte too few", state, Crypto.bytes(1, 0, 0, 2, 9), 50);
            dueMessage("one byte more", state, Crypto.bytes(1, 0, 0, 1, 9, 9), 50);
            dueMessage("a long one", state, Crypto.bytes(24, 1, 0, 1, 9), 50);
            dueMessage("two", state, Crypto.join(Crypto.update(0), Crypto.update(0)), 50);
        }
    }

    private static void kindsWaitedFor() {
        int[] waited = {NONE, 2, 8, 20, 1, 20, 24};
        for (int state = 1; state <= 6; state++) {
            for (int kind : new int[] {0, 1, 2, 4, 8, 20, 24, 254, 255}) {
                if (kind != waited[state]) {
                    dueMessage("kind " + kind, state, Crypto.message(kind, new byte[3]), 10);
                }
            }
        }
    }

    private static byte[] changed(byte[] message, int at, int to) {
        byte[] other = message.clone();
        other[at] = (byte) to;
        return other;
    }

    /** Every byte of the body that is not RANDOM, NAME or BINDER. */
    private static void clientHelloBodies() {
        int n = Bench.NAME.length;
        for (int at = 4; at < HELLO.length - 32; at++) {
            boolean free = at >= 6 && at < 38 || at >= 68 && at < 68 + n;
            if (!free) {
                dueMessage("CLIENTHELLO, byte " + at, 4, changed(HELLO, at, HELLO[at] ^ 1), 47);
                dueMessage("CLIENTHELLO, byte " + at, 4, changed(HELLO, at, HELLO[at] ^ 128), 47);
            }
        }
        dueMessage("an empty CLIENTHELLO", 4, Crypto.message(1, Crypto.NOTHING), 47);
        dueMessage("a CLIENTHELLO of zeros", 4, Crypto.message(1, new byte[HELLO.length - 4]), 47);
        for (int cut : new int[] {1, 32, 35, 60, 100}) {
            byte[] body = Arrays.copyOfRange(HELLO, 4, HELLO.length - cut);
            dueMessage("a CLIENTHELLO without the last " + cut, 4, Crypto.message(1, body), 47);
        }
        byte[] more = Crypto.join(Arrays.copyOfRange(HELLO, 4, HELLO.length), Crypto.bytes(0));
        dueMessage("a CLIENTHELLO and more", 4, Crypto.message(1, more), 47);
    }

    private static void clientHelloNames() {
        byte[] random = Bench.row(32, 9);
        for (int n : new int[] {0, 17, 18, 200}) {
            dueMessage("a NAME of " + n, 4, Crypto.clientHello(Bench.PSK, Bench.row(n, 65), random), 47);
        }
        for (int n : new int[] {1, 3, 4, 5, 16}) {
            dueMessage("another NAME of " + n, 4, Crypto.clientHello(Bench.PSK, Bench.row(n, 65), random), 115);
        }
        byte[] part = Arrays.copyOf(Bench.NAME, 3);
        dueMessage("a part of the NAME", 4, Crypto.clientHello(Bench.PSK, part, random), 115);
        byte[] longer = Crypto.join(Bench.NAME, Crypto.bytes(0));
        dueMessage("the NAME and more", 4, Crypto.clientHello(Bench.PSK, longer, random), 115);
        byte[] unbound = Crypto.clientHello(Crypto.bytes(1), Bench.row(4, 65), random);
        dueMessage("another NAME with another BINDER", 4, unbound, 115);
        byte[] ill = changed(unbound, 4, 9);
        dueMessage("another NAME in a wrong body", 4, ill, 47);
    }

    private static void clientHelloBinders() {
        for (int at = HELLO.length - 32; at < HELLO.length; at += 31) {
            dueMessage("BINDER, byte " + at, 4, changed(HELLO, at, HELLO[at] ^ 1), 51);
        }
        dueMessage("another RANDOM", 4, changed(HELLO, 6, 255), 51);
        byte[] random = Bench.CLIENT_RANDOM;
        dueMessage("another SECRET", 4, Crypto.clientHello(Bench.row(20, 2), Bench.NAME, random), 51);
        // HMAC keys are filled up with zeros, but the SECRET is what is hashed: a zero more is another one.
        byte[] longer = Crypto.join(Bench.PSK, Crypto.bytes(0));
        dueMessage("a SECRET with a zero behind", 4, Crypto.clientHello(longer, Bench.NAME, random), 51);
        Bench b = Bench.started();
        byte[] other = Crypto.clientHello(Bench.PSK, Bench.NAME, Bench.row(32, 77));
        Check.due("another RANDOM with its BINDER", b.giveBytes(1, Crypto.record(22, other)), 5);
    }

    private static void serverHelloBodies() {
        byte[] hello = Crypto.serverHello(Bench.SERVER_RANDOM);
        for (int at = 4; at < hello.length; at++) {
            if (at < 6 || at >= 38) {
                dueMessage("SERVERHELLO, byte " + at, 1, changed(hello, at, hello[at] ^ 1), 47);
            }
        }
        dueMessage("an empty SERVERHELLO", 1, Crypto.message(2, Crypto.NOTHING), 47);
        dueMessage("a short SERVERHELLO", 1, Crypto.message(2, Arrays.copyOfRange(hello, 4, 30)), 47);
        dueMessage("a SERVERHELLO less one", 1, Crypto.message(2, Arrays.copyOfRange(hello, 4, hello.length - 1)), 47);
        dueMessage("a SERVERHELLO and more", 1, Crypto.message(2, Arrays.copyOfRange(hello, 4, hello.length + 1)), 47);
        dueMessage("a long one", 1, Crypto.message(2, new byte[500]), 47);
        Bench b = Bench.started();
        Check.due("any RANDOM", b.giveBytes(0, Crypto.record(22, Crypto.serverHello(Bench.row(32, 200)))), 2);
    }

    private static void extensionsBodies() {
        dueMessage("EXTENSIONS of nothing", 2, Crypto.message(8, Crypto.NOTHING), 47);
        dueMessage("EXTENSIONS 0", 2, Crypto.message(8, Crypto.bytes(0)), 47);
        dueMessage("EXTENSIONS 0, 1", 2, Crypto.message(8, Crypto.bytes(0, 1)), 47);
        dueMessage("EXTENSIONS 1, 0", 2, Crypto.message(8, Crypto.bytes(1, 0)), 47);
        dueMessage("EXTENSIONS 0, 0, 0", 2, Crypto.message(8, Crypto.bytes(0, 0, 0)), 47);
    }

    private static void finishedBodies() {
        for (int state : new int[] {3, 5}) {
            for (int n : new int[] {0, 1, 31, 33, 64}) {
                dueMessage("FINISHED of " + n, state, Crypto.message(20, new byte[n]), 50);
            }
            dueMessage("FINISHED of zeros", state, Crypto.message(20, new byte[32]), 51);
        }
        byte[] log = Crypto.join(HELLO, Crypto.serverHello(Bench.SERVER_RANDOM), Crypto.extensions());
        Bench b = Bench.waiting();
        byte[] right = Crypto.finished(b.secretBytes(0, 1), log);
        for (int at : new int[] {4, 20, 35}) {
            dueMessage("FINISHED, byte " + at, 3, changed(right, at, right[at] ^ 1), 51);
        }
        byte[] own = Crypto.finished(b.secretBytes(0, 0), log);
        dueMessage("FINISHED by the client's secret", 3, own, 51);
        Check.due("the right one", b.giveSealed(0, Crypto.join(right, Crypto.bytes(22))), 6);
        Bench c = Bench.answered();
        dueMessage("FINISHED over too little", 5, Crypto.finished(c.secretBytes(1, 1), log), 51);
        byte[] rightOne = Crypto.finished(c.secretBytes(1, 1), Crypto.join(log, right));
        Check.due("the right one", c.giveSealed(1, Crypto.join(rightOne, Crypto.bytes(22))), 6);
    }

    private static void updateBodies() {
        dueMessage("UPDATE of nothing", 6, Crypto.message(24, Crypto.NOTHING), 50);
        dueMessage("UPDATE of two", 6, Crypto.message(24, Crypto.bytes(0, 0)), 50);
        dueMessage("UPDATE of two, above 1", 6, Crypto.message(24, Crypto.bytes(2, 0)), 50);
        dueMessage("UPDATE 2", 6, Crypto.update(2), 47);
        dueMessage("UPDATE 128", 6, Crypto.update(128), 47);
        dueMessage("UPDATE 255", 6, Crypto.update(255), 47);
        Bench b = Bench.connected();
        byte[] reads = b.secretBytes(0, 1);
        b.giveSealed(0, Crypto.join(Crypto.update(2), Crypto.bytes(22)));
        Check.dueBytes("by a wrong UPDATE no secret is made", b.secretBytes(0, 1), reads);
        Check.due("but the record was opened", b.x.state(0, 6), 1);
    }

    /** The alert's own record: plain without keys to write by, else sealed by them. */
    private static void alertsAreSealed() {
        for (int state = 1; state <= 6; state++) {
            Bench b = in(state);
            int end = who(state);
            int last = b.x.state(end, 3);
            byte[] want = Crypto.record(21, Crypto.bytes(2, 50));
            if (state != 1 && state != 4) {
                want = Crypto.seal(b.secretBytes(end, 0), b.x.state(end, 5), Crypto.bytes(2, 50, 21));
            }
            b.giveBytes(end, Crypto.NOTHING);
            Check.dueBytes("the alert in state " + state, b.writtenRecord(end, last), want);
        }
    }

    private static void deafEnds() {
        Bench b = Bench.connected();
        b.giveBytes(0, Crypto.NOTHING);
        Check.due("one FAILED", b.giveBytes(0, Crypto.bytes(23, 3, 3, 255, 255)), 7);
        Check.due("keeps its alert", b.x.state(0, 1), 50);
        Check.due("and writes no other", b.x.state(0, 3), 1);
        Bench c = Bench.connected();
        c.giveSealed(0, Crypto.bytes(1, 0, 21));
        Check.due("one whose other side has closed", c.giveBytes(0, Crypto.NOTHING), 6);
        Check.due("has no alert", c.x.state(0, 1), NONE);
        Check.due("reads no data", c.giveSealed(0, Crypto.bytes(7, 23)), 6);
        Check.due("is given none", c.x.state(0, 4), 0);
        Check.due("and may speak", c.sayBytes(0, Crypto.bytes(7)), 1);
        Bench d = Bench.told();
        Check.due("one MADE", d.giveBytes(0, Crypto.NOTHING), 0);
        Check.due("has no alert", d.x.state(0, 1), NONE);
    }
}
