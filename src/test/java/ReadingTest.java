import java.util.Arrays;
import java.util.function.Supplier;

/** Part III, by give (promise 11) and carry (promise 10): every alert, and which comes first. */
public final class ReadingTest {
    private static final int NONE = SecretEnds.NONE;
    private static final byte[] HELLO = Crypto.clientHello(Bench.PSK, Bench.NAME, Bench.CLIENT_RANDOM);

    private ReadingTest() {
    }

    public static void main(String[] args) {
        Check.run(ReadingTest.class);
    }

    /** A pair with an END in a state: 1, 2, 3 and 6 the client, 4 and 5 the server. */
    private static Bench in(int state) {
        return Bench.in(state, who(state));
    }

    private static int who(int state) {
        return state == 4 || state == 5 ? 1 : 0;
    }

    private static boolean isPlain(int state) {
        return state == 1 || state == 4;
    }

    /** Bytes that are given to an END in a state bring this alert. */
    private static void dueGiven(String what, int state, byte[] bytes, int alert) {
        Bench b = in(state);
        int end = who(state);
        int lying = b.x.state(end, 3);
        Check.due(what + " in state " + state, b.giveBytes(end, bytes), 7);
        b.dueAlert(what + " in state " + state, end, alert);
        Check.due(what + ": one record more", b.x.state(end, 3), lying + 1);
    }

    /** What is sealed rightly for an END in a state brings this alert. */
    private static void dueSealed(String what, int state, byte[] inner, int alert) {
        Bench b = in(state);
        int end = who(state);
        Check.due(what + " in state " + state, b.giveSealed(end, inner), 7);
        b.dueAlert(what + " in state " + state, end, alert);
    }

    /** A message that is rightly carried to an END in a state: plain in 1 and 4. */
    private static void dueMessage(String what, int state, byte[] message, int alert) {
        if (isPlain(state)) {
            dueGiven(what, state, Crypto.record(22, message), alert);
        } else {
            dueSealed(what, state, Crypto.join(message, Crypto.bytes(22)), alert);
        }
    }

    @Says(promise = {10, 11}, part = "III", text = "Type 20: nothing, if it has one byte 1 and the state is 1, 2, 3 or 5; else 10.")
    private static void changes() {
        for (int state = 1; state <= 6; state++) {
            byte[] change = Crypto.record(20, Crypto.bytes(1));
            if (state == 4 || state == 6) {
                dueGiven("type 20", state, change, 10);
            } else {
                Bench b = in(state);
                int lying = b.x.state(who(state), 3);
                Check.due("type 20 in state " + state, b.giveBytes(who(state), change), state);
                Check.due("nothing is written", b.x.state(who(state), 3), lying);
                Check.due("no alert", b.x.state(who(state), 1), NONE);
            }
            dueGiven("type 20 with 2", state, Crypto.record(20, Crypto.bytes(2)), 10);
            dueGiven("type 20 with 0", state, Crypto.record(20, Crypto.bytes(0)), 10);
            dueGiven("type 20 with nothing", state, Crypto.record(20, Crypto.NOTHING), 10);
            dueGiven("type 20 with 1, 1", state, Crypto.record(20, Crypto.bytes(1, 1)), 10);
        }
    }

    @Says(promise = {10, 11}, part = "III", text = "Without keys: type 23: 10.")
    @Says(promise = {10, 11}, part = "III", text = "Other types: 10.")
    private static void withoutKeys() {
        for (int state : new int[] {1, 4}) {
            dueGiven("type 23", state, Crypto.record(23, new byte[40]), 10);
            dueGiven("type 23 with nothing", state, Crypto.record(23, Crypto.NOTHING), 10);
            for (int type : new int[] {0, 1, 19, 24, 25, 255}) {
                dueGiven("type " + type, state, Crypto.record(type, Crypto.bytes(1, 0)), 10);
            }
        }
    }

    @Says(promise = {10, 11}, part = "III", text = "Once an END reads by keys (client from state 2, server from 5): type 23 alone, else 10;")
    private static void withKeys() {
        for (int state : new int[] {2, 3, 5, 6}) {
            for (int type : new int[] {0, 19, 21, 22, 24, 255}) {
                dueGiven("type " + type + " where keys are", state, Crypto.record(type, Crypto.bytes(1, 0)), 10);
            }
        }
        dueGiven("a plain EXTENSIONS", 2, Crypto.record(22, Crypto.extensions()), 10);
    }

    @Says(promise = {10, 11}, part = "III", text = "opened: fewer than 17 bytes, or the seal is not right: 20;")
    private static void seals() {
        for (int state : new int[] {2, 3, 5, 6}) {
            dueGiven("nothing", state, Crypto.record(23, Crypto.NOTHING), 20);
            dueGiven("16 bytes", state, Crypto.record(23, new byte[16]), 20);
            dueGiven("17 bytes", state, Crypto.record(23, new byte[17]), 20);
            Bench b = in(state);
            byte[] secret = b.secretBytes(who(state), 1);
            int number = b.x.state(who(state), 6);
            byte[] inner = Crypto.bytes(2, 80, 21);
            dueGiven("a seal around nothing", state, Crypto.seal(secret, number, Crypto.NOTHING), 20);
            dueGiven("the next number", state, Crypto.seal(secret, number + 1, inner), 20);
            dueGiven("the number with its bytes turned", state, Crypto.seal(secret, number ^ 1L << 24, inner), 20);
            dueGiven("another secret", state, Crypto.seal(Crypto.next(secret), number, inner), 20);
            byte[] right = Crypto.seal(secret, number, inner);
            for (int i = 5; i < right.length; i++) {
                byte[] wrong = right.clone();
                wrong[i] ^= 16;
                dueGiven("byte " + i + " is wrong", state, wrong, 20);
            }
            Check.due("the right one is opened", b.giveBytes(who(state), right), 7);
            Check.due("and read", b.x.state(who(state), 2), 80);
            Check.due("its number counts", b.x.state(who(state), 6), number + 1);
        }
    }

    @Says(promise = {10, 11}, part = "III", text = "nothing but zeros in it: 10;")
    @Says(promise = {10, 11}, part = "I", text = "At reading zeros behind the inner type are allowed.")
    private static void zerosBehind() {
        for (int state : new int[] {2, 3, 5, 6}) {
            dueSealed("one zero", state, new byte[1], 10);
            dueSealed("many zeros", state, new byte[300], 10);
        }
        Bench b = Bench.connected();
        byte[] inner = Crypto.join(Crypto.bytes(5, 0, 0, 23), new byte[500]);
        Check.due("zeros behind the inner type", b.giveSealed(0, inner), 6);
        Check.dueBytes("zeros ahead of it are given", b.givenBytes(0), Crypto.bytes(5, 0, 0));
        Check.due("no bytes", b.giveSealed(0, Crypto.bytes(23)), 6);
        Check.due("nothing more is given", b.x.state(0, 4), 3);
        Check.due("both count", b.x.state(0, 6), 2);
        Bench c = in(2);
        Check.due("EXTENSIONS with zeros", c.giveSealed(0, Crypto.join(Crypto.extensions(), Crypto.bytes(22, 0))), 3);
    }

    @Says(promise = {10, 11}, part = "III", text = "then it is of its inner type.")
    @Says(promise = {10, 11}, part = "III", text = "Other types: 10.")
    private static void innerTypes() {
        for (int state : new int[] {2, 3, 5, 6}) {
            for (int type : new int[] {1, 19, 24, 255}) {
                dueSealed("inner type " + type, state, Crypto.bytes(1, 0, type), 10);
            }
            dueSealed("inner type 20", state, Crypto.bytes(1, 20), 10);
            if (state != 6) {
                dueSealed("data", state, Crypto.bytes(1, 23), 10);
            }
        }
    }

    @Says(promise = {10, 11}, part = "III", text = "ALERT: not two bytes: 50;")
    private static void alerts() {
        for (int state = 1; state <= 6; state++) {
            boolean plain = isPlain(state);
            for (int n = 0; n < 4; n++) {
                if (n != 2) {
                    byte[] body = Arrays.copyOf(Crypto.bytes(1, 0, 1), n);
                    if (plain) {
                        dueGiven("an ALERT of " + n, state, Crypto.record(21, body), 50);
                    } else {
                        dueSealed("an ALERT of " + n, state, Crypto.join(body, Crypto.bytes(21)), 50);
                    }
                }
            }
        }
    }

    @Says(promise = {10, 11}, part = "III", text = "1, 0: closed (in states 1 to 5: FAILED, too); else FAILED (no alert in turn).")
    @Says(promise = {10, 11}, part = "II", text = "ALERT (2 bytes): 1, 0 closes what the writer writes; all others: FAILED.")
    private static void alertsOfOthers() {
        int[][] all = {{1, 0}, {2, 0}, {1, 90}, {2, 40}, {0, 0}, {255, 255}};
        for (int state = 1; state <= 6; state++) {
            boolean plain = isPlain(state);
            for (int[] alert : all) {
                Bench b = in(state);
                int end = who(state);
                int lying = b.x.state(end, 3);
                boolean closes = alert[0] == 1 && alert[1] == 0;
                boolean fails = !closes || state != 6;
                byte[] body = Crypto.bytes(alert[0], alert[1]);
                String what = "ALERT " + alert[0] + ", " + alert[1] + " in state " + state;
                int got = plain ? b.giveBytes(end, Crypto.record(21, body))
                    : b.giveSealed(end, Crypto.join(body, Crypto.bytes(21)));
                Check.due(what, got, fails ? 7 : 6);
                Check.due(what + ": no alert of its own", b.x.state(end, 1), NONE);
                Check.due(what + ": the second byte", b.x.state(end, 2), fails ? alert[1] : NONE);
                Check.due(what + ": no alert in turn", b.x.state(end, 3), lying);
                Check.due(what + ": the other side has closed", b.x.state(end, 8), closes ? 1 : 0);
                Check.due(what + ": it has not", b.x.state(end, 7), 0);
            }
        }
    }

    @Says(promise = {10, 11}, part = "III", text = "HANDSHAKE: no whole message, or more: 50;")
    @Says(promise = {10, 11}, part = "I", text = "HANDSHAKE: one whole message: a kind, its length (3 bytes), its body.")
    private static void wholeMessages() {
        for (int state = 1; state <= 6; state++) {
            dueMessage("no message", state, Crypto.NOTHING, 50);
            dueMessage("three bytes", state, Crypto.bytes(1, 0, 0), 50);
            dueMessage("one byte too few", state, Crypto.bytes(1, 0, 0, 2, 9), 50);
            dueMessage("one byte more", state, Crypto.bytes(1, 0, 0, 1, 9, 9), 50);
            dueMessage("a long one", state, Crypto.bytes(24, 1, 0, 1, 9), 50);
            dueMessage("two", state, Crypto.join(Crypto.update(0), Crypto.update(0)), 50);
        }
    }

    @Says(promise = {10, 11}, part = "III", text = "a kind that is not waited for (CONNECTED: 24): 10;")
    private static void kindsWaitedFor() {
        int[] waited = {NONE, 2, 8, 20, 1, 20, 24};
        for (int state = 1; state <= 6; state++) {
            for (int kind : new int[] {0, 1, 2, 3, 4, 7, 8, 9, 19, 20, 21, 22, 23, 24, 25, 254, 255}) {
                if (kind != waited[state]) {
                    dueMessage("kind " + kind, state, Crypto.message(kind, new byte[3]), 10);
                }
            }
        }
    }

    private static byte[] changed(byte[] message, int at, int to) {
        byte[] other = message.clone();
        other[at] = (byte) to;
        return other;
    }

    /** Every byte of the body that is not RANDOM, NAME or BINDER. */
    @Says(promise = {10, 11}, part = "III", text = "then a body that is not as II tells (RANDOM, NAME, BINDER, what FINISHED, UPDATE have aside): of CLIENTHELLO, SERVERHELLO, EXTENSIONS 47;")
    private static void clientHelloBodies() {
        int n = Bench.NAME.length;
        for (int at = 4; at < HELLO.length - 32; at++) {
            boolean free = at >= 6 && at < 38 || at >= 68 && at < 68 + n;
            if (!free) {
                dueMessage("CLIENTHELLO, byte " + at, 4, changed(HELLO, at, HELLO[at] ^ 1), 47);
                dueMessage("CLIENTHELLO, byte " + at, 4, changed(HELLO, at, HELLO[at] ^ 128), 47);
            }
        }
        dueMessage("an empty CLIENTHELLO", 4, Crypto.message(1, Crypto.NOTHING), 47);
        dueMessage("a CLIENTHELLO of zeros", 4, Crypto.message(1, new byte[HELLO.length - 4]), 47);
        for (int cut : new int[] {1, 32, 35, 60, 100}) {
            byte[] body = Arrays.copyOfRange(HELLO, 4, HELLO.length - cut);
            dueMessage("a CLIENTHELLO without the last " + cut, 4, Crypto.message(1, body), 47);
        }
        byte[] more = Crypto.join(Arrays.copyOfRange(HELLO, 4, HELLO.length), Crypto.bytes(0));
        dueMessage("a CLIENTHELLO and more", 4, Crypto.message(1, more), 47);
    }

    @Says(promise = {10, 11}, part = "III", text = "a NAME that isn't the END's: 115;")
    @Says(promise = {10, 11}, part = "I", text = "NAME (1 to 16; one of another length in a CLIENTHELLO: its body is not as II tells), ")
    private static void clientHelloNames() {
        byte[] random = Bench.row(32, 9);
        for (int n : new int[] {0, 17, 18, 200}) {
            dueMessage("a NAME of " + n, 4, Crypto.clientHello(Bench.PSK, Bench.row(n, 65), random), 47);
        }
        for (int n : new int[] {1, 3, 4, 5, 16}) {
            dueMessage("another NAME of " + n, 4, Crypto.clientHello(Bench.PSK, Bench.row(n, 65), random), 115);
        }
        byte[] part = Arrays.copyOf(Bench.NAME, 3);
        dueMessage("a part of the NAME", 4, Crypto.clientHello(Bench.PSK, part, random), 115);
        byte[] longer = Crypto.join(Bench.NAME, Crypto.bytes(0));
        dueMessage("the NAME and more", 4, Crypto.clientHello(Bench.PSK, longer, random), 115);
        byte[] unbound = Crypto.clientHello(Crypto.bytes(1), Bench.row(4, 65), random);
        dueMessage("another NAME with another BINDER", 4, unbound, 115);
        byte[] ill = changed(unbound, 4, 9);
        dueMessage("another NAME in a wrong body", 4, ill, 47);
    }

    @Says(promise = {10, 11}, part = "III", text = "a BINDER or FINISHED that isn't right: 51.")
    private static void clientHelloBinders() {
        for (int at = HELLO.length - 32; at < HELLO.length; at += 31) {
            dueMessage("BINDER, byte " + at, 4, changed(HELLO, at, HELLO[at] ^ 1), 51);
        }
        dueMessage("another RANDOM", 4, changed(HELLO, 6, 255), 51);
        byte[] random = Bench.CLIENT_RANDOM;
        dueMessage("another SECRET", 4, Crypto.clientHello(Bench.row(20, 2), Bench.NAME, random), 51);
        // HMAC keys are filled up with zeros, but the SECRET is what is hashed: a zero more is another one.
        byte[] longer = Crypto.join(Bench.PSK, Crypto.bytes(0));
        dueMessage("a SECRET with a zero behind", 4, Crypto.clientHello(longer, Bench.NAME, random), 51);
        Bench b = Bench.started();
        byte[] other = Crypto.clientHello(Bench.PSK, Bench.NAME, Bench.row(32, 77));
        Check.due("another RANDOM with its BINDER", b.giveBytes(1, Crypto.record(22, other)), 5);
    }

    @Says(promise = {10, 11}, part = "III", text = "of CLIENTHELLO, SERVERHELLO, EXTENSIONS 47;")
    private static void serverHelloBodies() {
        byte[] hello = Crypto.serverHello(Bench.SERVER_RANDOM);
        for (int at = 4; at < hello.length; at++) {
            if (at < 6 || at >= 38) {
                dueMessage("SERVERHELLO, byte " + at, 1, changed(hello, at, hello[at] ^ 1), 47);
            }
        }
        dueMessage("an empty SERVERHELLO", 1, Crypto.message(2, Crypto.NOTHING), 47);
        dueMessage("a short SERVERHELLO", 1, Crypto.message(2, Arrays.copyOfRange(hello, 4, 30)), 47);
        dueMessage("a SERVERHELLO less one", 1, Crypto.message(2, Arrays.copyOfRange(hello, 4, hello.length - 1)), 47);
        dueMessage("a SERVERHELLO and more", 1, Crypto.message(2, Arrays.copyOfRange(hello, 4, hello.length + 1)), 47);
        dueMessage("a long one", 1, Crypto.message(2, new byte[500]), 47);
        Bench b = Bench.started();
        Check.due("any RANDOM", b.giveBytes(0, Crypto.record(22, Crypto.serverHello(Bench.row(32, 200)))), 2);
    }

    @Says(promise = {10, 11}, part = "III", text = "of CLIENTHELLO, SERVERHELLO, EXTENSIONS 47;")
    private static void extensionsBodies() {
        dueMessage("EXTENSIONS of nothing", 2, Crypto.message(8, Crypto.NOTHING), 47);
        dueMessage("EXTENSIONS 0", 2, Crypto.message(8, Crypto.bytes(0)), 47);
        dueMessage("EXTENSIONS 0, 1", 2, Crypto.message(8, Crypto.bytes(0, 1)), 47);
        dueMessage("EXTENSIONS 1, 0", 2, Crypto.message(8, Crypto.bytes(1, 0)), 47);
        dueMessage("EXTENSIONS 0, 0, 0", 2, Crypto.message(8, Crypto.bytes(0, 0, 0)), 47);
    }

    @Says(promise = {10, 11}, part = "III", text = "FINISHED not of 32 bytes, ")
    @Says(promise = {10, 11}, part = "III", text = "a BINDER or FINISHED that isn't right: 51.")
    private static void finishedBodies() {
        for (int state : new int[] {3, 5}) {
            for (int n : new int[] {0, 1, 31, 33, 64}) {
                dueMessage("FINISHED of " + n, state, Crypto.message(20, new byte[n]), 50);
            }
            dueMessage("FINISHED of zeros", state, Crypto.message(20, new byte[32]), 51);
        }
        byte[] log = Crypto.join(HELLO, Crypto.serverHello(Bench.SERVER_RANDOM), Crypto.extensions());
        Bench b = Bench.waiting();
        byte[] right = Crypto.finished(b.secretBytes(0, 1), log);
        for (int at : new int[] {4, 20, 35}) {
            dueMessage("FINISHED, byte " + at, 3, changed(right, at, right[at] ^ 1), 51);
        }
        byte[] own = Crypto.finished(b.secretBytes(0, 0), log);
        dueMessage("FINISHED by the client's secret", 3, own, 51);
        Check.due("the right one", b.giveSealed(0, Crypto.join(right, Crypto.bytes(22))), 6);
        Bench c = Bench.answered();
        dueMessage("FINISHED over too little", 5, Crypto.finished(c.secretBytes(1, 1), log), 51);
        byte[] rightOne = Crypto.finished(c.secretBytes(1, 1), Crypto.join(log, right));
        Check.due("the right one", c.giveSealed(1, Crypto.join(rightOne, Crypto.bytes(22))), 6);
    }

    @Says(promise = {10, 11}, part = "III", text = "UPDATE not of one: 50; UPDATE above 1: 47;")
    private static void updateBodies() {
        dueMessage("UPDATE of nothing", 6, Crypto.message(24, Crypto.NOTHING), 50);
        dueMessage("UPDATE of two", 6, Crypto.message(24, Crypto.bytes(0, 0)), 50);
        dueMessage("UPDATE of two, above 1", 6, Crypto.message(24, Crypto.bytes(2, 0)), 50);
        dueMessage("UPDATE 2", 6, Crypto.update(2), 47);
        dueMessage("UPDATE 128", 6, Crypto.update(128), 47);
        dueMessage("UPDATE 255", 6, Crypto.update(255), 47);
        Bench b = Bench.connected();
        byte[] reads = b.secretBytes(0, 1);
        b.giveSealed(0, Crypto.join(Crypto.update(2), Crypto.bytes(22)));
        Check.dueBytes("by a wrong UPDATE no secret is made", b.secretBytes(0, 1), reads);
        Check.due("but the record was opened", b.x.state(0, 6), 1);
    }

    /** The alert's own record: plain without keys to write by, else sealed by them. */
    @Says(promise = {10, 11}, part = "III", text = "An alert: the END writes ALERT 2 and that number (SEALED by the keys that it writes by, if it has some), and is FAILED.")
    private static void alertsAreSealed() {
        for (int state = 1; state <= 6; state++) {
            Bench b = in(state);
            int end = who(state);
            int last = b.x.state(end, 3);
            byte[] want = Crypto.record(21, Crypto.bytes(2, 50));
            if (!isPlain(state)) {
                want = Crypto.seal(b.secretBytes(end, 0), b.x.state(end, 5), Crypto.bytes(2, 50, 21));
            }
            b.giveBytes(end, Crypto.NOTHING);
            Check.dueBytes("the alert in state " + state, b.writtenRecord(end, last), want);
        }
    }

    @Says(promise = {10, 11}, part = "III", text = "an END that is MADE, FAILED, or whose other side has closed: nothing is read.")
    private static void deafEnds() {
        Bench b = Bench.connected();
        b.giveBytes(0, Crypto.NOTHING);
        Check.due("one FAILED", b.giveBytes(0, Crypto.bytes(23, 3, 3, 255, 255)), 7);
        Check.due("keeps its alert", b.x.state(0, 1), 50);
        Check.due("and writes no other", b.x.state(0, 3), 1);
        Bench c = Bench.connected();
        c.giveSealed(0, Crypto.bytes(1, 0, 21));
        Check.due("one whose other side has closed", c.giveBytes(0, Crypto.NOTHING), 6);
        Check.due("has no alert", c.x.state(0, 1), NONE);
        Check.due("reads no data", c.giveSealed(0, Crypto.bytes(7, 23)), 6);
        Check.due("is given none", c.x.state(0, 4), 0);
        Check.due("and may speak", c.sayBytes(0, Crypto.bytes(7)), 1);
        Bench d = Bench.told();
        Check.due("one MADE", d.giveBytes(0, Crypto.NOTHING), 0);
        Check.due("has no alert", d.x.state(0, 1), NONE);
    }

    @Says(promise = {10, 11}, part = "III", text = "Fewer than 5 bytes: alert 50.")
    private static void fewerThanFiveBytes() {
        for (int state = 1; state <= 6; state++) {
            for (int type : new int[] {20, 21, 22, 23, 24}) {
                for (int n = 0; n < 5; n++) {
                    dueGiven(n + " bytes of type " + type, state, Arrays.copyOf(Crypto.bytes(type, 3, 3, 0, 0), n), 50);
                }
            }
            dueGiven("5 bytes are enough", state, Crypto.bytes(24, 3, 3, 0, 0), 10);
            dueGiven("so are 6", state, Crypto.bytes(24, 3, 3, 0, 1, 1), 10);
        }
    }

    /** Where the length is not too long it is still another than the tape can hold: 50. */
    @Says(promise = {10, 11}, part = "III", text = "Length above 16384 (type 23: 16640): 22.")
    private static void lengthsAbove() {
        for (int state = 1; state <= 6; state++) {
            for (int type : new int[] {0, 20, 21, 22, 24, 99, 255}) {
                dueGiven(type + " with 16383", state, Crypto.bytes(type, 3, 3, 0x3f, 255), 50);
                dueGiven(type + " with 16384", state, Crypto.bytes(type, 3, 3, 0x40, 0), 50);
                dueGiven(type + " with 16385", state, Crypto.bytes(type, 3, 3, 0x40, 1), 22);
                dueGiven(type + " with 16640", state, Crypto.bytes(type, 3, 3, 0x41, 0), 22);
                dueGiven(type + " with 65535", state, Crypto.bytes(type, 3, 3, 255, 255), 22);
            }
            dueGiven("23 with 16384", state, Crypto.bytes(23, 3, 3, 0x40, 0), 50);
            dueGiven("23 with 16385", state, Crypto.bytes(23, 3, 3, 0x40, 1), 50);
            dueGiven("23 with 16639", state, Crypto.bytes(23, 3, 3, 0x40, 255), 50);
            dueGiven("23 with 16640", state, Crypto.bytes(23, 3, 3, 0x41, 0), 50);
            dueGiven("23 with 16641", state, Crypto.bytes(23, 3, 3, 0x41, 1), 22);
            dueGiven("23 with 65535", state, Crypto.bytes(23, 3, 3, 255, 255), 22);
            byte[] full = Arrays.copyOf(Crypto.bytes(22, 3, 3, 0x40, 1), 600);
            dueGiven("16385 and a full tape", state, full, 22);
        }
    }

    @Says(promise = {10, 11}, part = "III", text = "Another number of bytes than told: 50.")
    private static void anotherNumberOfBytes() {
        for (int state = 1; state <= 6; state++) {
            for (int n : new int[] {0, 1, 2, 254, 255, 256, 257, 594, 595}) {
                byte[] right = Crypto.record(24, new byte[n]);
                dueGiven(n + " bytes", state, right, 10);
                if (n > 0) {
                    dueGiven("one fewer than " + n, state, Arrays.copyOf(right, right.length - 1), 50);
                }
                if (n < 595) {
                    dueGiven("one more than " + n, state, Arrays.copyOf(right, right.length + 1), 50);
                }
            }
            dueGiven("256 told and none", state, Crypto.bytes(24, 3, 3, 1, 0), 50);
            dueGiven("1 told and 256", state, Arrays.copyOf(Crypto.bytes(24, 3, 3, 0, 1), 261), 50);
        }
    }

    @Says(promise = {10, 11}, part = "III", text = "Not 3, 3: 70.")
    private static void notThreeThree() {
        int[][] others = {{3, 2}, {3, 4}, {2, 3}, {4, 3}, {3, 1}, {0, 0}, {3, 0}, {0, 3}, {3, 255}, {255, 3}, {2, 2}, {4, 4}};
        for (int state = 1; state <= 6; state++) {
            for (int[] other : others) {
                for (int type : new int[] {20, 21, 22, 23, 24}) {
                    dueGiven(other[0] + ", " + other[1], state, Crypto.bytes(type, other[0], other[1], 0, 1, 1), 70);
                }
            }
            dueGiven("3, 3", state, Crypto.bytes(24, 3, 3, 0, 1, 1), 10);
        }
    }

    /** In the order of the document: where two are so, the first one's alert comes. */
    @Says(promise = {10, 11}, part = "III", text = "READING a RECORD, the first that is so:")
    private static void theFirstThatIsSo() {
        for (int state = 1; state <= 6; state++) {
            dueGiven("too long, another number, not 3, 3", state, Crypto.bytes(22, 1, 1, 0x40, 1), 22);
            dueGiven("too long, of type 20", state, Crypto.bytes(20, 3, 3, 0x40, 1, 1), 22);
            dueGiven("another number, not 3, 3", state, Crypto.bytes(22, 1, 1, 0, 2, 1), 50);
            dueGiven("another number, of type 20", state, Crypto.bytes(20, 3, 3, 0, 1, 1, 1), 50);
            dueGiven("another number, of type 23 and short", state, Crypto.bytes(23, 3, 3, 0, 2, 1), 50);
            dueGiven("another number, of another type", state, Crypto.bytes(24, 3, 3, 0, 2, 1), 50);
            dueGiven("not 3, 3, of type 20", state, Crypto.bytes(20, 3, 1, 0, 1, 1), 70);
            dueGiven("not 3, 3, of type 23 and short", state, Crypto.bytes(23, 3, 1, 0, 1, 1), 70);
            dueGiven("not 3, 3, an ALERT of one byte", state, Crypto.bytes(21, 3, 1, 0, 1, 1), 70);
            dueGiven("not 3, 3, an ALERT", state, Crypto.bytes(21, 3, 1, 0, 2, 1, 0), 70);
            dueGiven("not 3, 3, no whole message", state, Crypto.bytes(22, 3, 1, 0, 1, 1), 70);
            dueMessage("no whole message of a kind not waited for", state, Crypto.bytes(9, 0, 0, 2, 0), 50);
            dueMessage("a kind not waited for, an empty body", state, Crypto.message(9, Crypto.NOTHING), 10);
        }
        for (int state : new int[] {2, 3, 5, 6}) {
            dueGiven("keys: an ALERT of one byte, not sealed", state, Crypto.record(21, Crypto.bytes(1)), 10);
            dueGiven("keys: no whole message, not sealed", state, Crypto.record(22, Crypto.bytes(1)), 10);
            dueGiven("keys: zeros, not sealed rightly", state, Crypto.record(23, new byte[40]), 20);
        }
        for (int state : new int[] {1, 4}) {
            dueGiven("no keys: type 23 and short", state, Crypto.record(23, new byte[16]), 10);
        }
    }

    @Says(promise = {10, 11}, part = "III", text = "READING a RECORD, the first that is so:")
    private static void theFirstThatIsSoInMessages() {
        byte[] other = Crypto.clientHello(Bench.row(9, 1), Bench.row(4, 65), Bench.CLIENT_RANDOM);
        dueMessage("another NAME and BINDER", 4, other, 115);
        dueMessage("another NAME and BINDER in a wrong body", 4, changed(other, 4, 2), 47);
        dueMessage("another BINDER in a wrong body", 4, changed(changed(HELLO, 4, 2), HELLO.length - 1, 7), 47);
        dueMessage("FINISHED of 31 that isn't right", 3, Crypto.message(20, new byte[31]), 50);
        dueMessage("FINISHED of 33 that isn't right", 5, Crypto.message(20, new byte[33]), 50);
        dueMessage("UPDATE of two above 1", 6, Crypto.message(24, Crypto.bytes(2, 2)), 50);
        for (int state : new int[] {1, 2, 3, 5, 6}) {
            dueMessage("CLIENTHELLO with another NAME", state, other, 10);
        }
    }

    /** Nothing is read, whatever is wrong with it: no call later shows that it came. */
    @Says(promise = {10, 11}, part = "III",
        text = "an END that is MADE, FAILED, or whose other side has closed: nothing is read.")
    private static void nothingIsRead() {
        byte[][] records = {
            Crypto.NOTHING, Crypto.bytes(22, 3, 3, 0), Crypto.bytes(22, 3, 3, 0x40, 1), Crypto.bytes(22, 3, 3, 0, 1),
            Crypto.bytes(21, 3, 1, 0, 2, 1, 0), Crypto.record(20, Crypto.bytes(1)), Crypto.record(20, Crypto.bytes(2)),
            Crypto.record(21, Crypto.bytes(1, 0)), Crypto.record(21, Crypto.bytes(2, 80)), Crypto.record(22, HELLO),
            Crypto.record(22, Crypto.serverHello(Bench.SERVER_RANDOM)), Crypto.record(23, new byte[17])
        };
        for (int[] place : new int[][] {{0, 0}, {0, 1}, {7, 0}, {7, 1}, {6, 0}, {6, 1}}) {
            int end = place[1];
            for (byte[] record : records) {
                dueDeaf(place[0], end, () -> deaf(place[0], end), record);
            }
        }
        for (int end = 0; end < 2; end++) {
            int who = end;
            Bench b = deaf(6, who);
            byte[] sealed = Crypto.seal(b.secretBytes(who, 1), b.x.state(who, 6), Crypto.bytes(7, 23));
            dueDeaf(6, who, () -> deaf(6, who), sealed);
            Bench c = Bench.in(7, who);
            sealed = Crypto.seal(c.secretBytes(who, 1), c.x.state(who, 6), Crypto.bytes(1, 0, 21));
            dueDeaf(7, who, () -> deaf(7, who), sealed);
        }
    }

    /** An END MADE or FAILED; or one CONNECTED (6) whose other side has closed. */
    private static Bench deaf(int state, int end) {
        Bench b = Bench.in(state, end);
        if (state == 6) {
            Check.due("close", b.x.close(1 - end), true);
            Check.due("it is read", b.x.carry(1 - end, end), 6);
            Check.due("the other side has closed", b.x.state(end, 8), 1);
        }
        return b;
    }

    /** The tape is empty behind it, as it is without it. */
    private static void dueDeaf(int state, int end, Supplier<Bench> setUp, byte[] record) {
        new Twins(setUp).dueUnchanged(record.length + " bytes in state " + state, x -> {
            Bench.feedAll(x, record);
            return x.give(end);
        }, state);
    }

    @Says(promise = {10, 11}, part = "III", text = "Type 20: nothing, if it has one byte 1 and the state is 1, 2, 3 or 5; else 10.")
    private static void changesLeaveNothing() {
        byte[] change = Crypto.record(20, Crypto.bytes(1));
        for (int state : new int[] {1, 2, 3, 5}) {
            dueDeaf(state, who(state), () -> in(state), change);
            byte[] other = change.clone();
            for (int value : new int[] {0, 2, 3, 129, 255}) {
                other[5] = (byte) value;
                dueGiven("type 20 with " + value, state, other.clone(), 10);
            }
            dueGiven("type 20 with 1, 0", state, Crypto.record(20, Crypto.bytes(1, 0)), 10);
            dueGiven("type 20 with 0, 1", state, Crypto.record(20, Crypto.bytes(0, 1)), 10);
        }
        Bench server = Bench.connected();
        Check.due("a server CONNECTED", server.giveBytes(1, change), 7);
        server.dueAlert("a server CONNECTED", 1, 10);
    }

    /** The same plain ALERT is read up to one state and refused from the next. */
    @Says(promise = {10, 11}, part = "III",
        text = "Once an END reads by keys (client from state 2, server from 5): type 23 alone, else 10;")
    private static void keysAreReadByFromTheHellosOn() {
        for (int state = 1; state <= 6; state++) {
            Bench b = in(state);
            Check.due("a plain ALERT", b.giveBytes(who(state), Crypto.record(21, Crypto.bytes(2, 80))), 7);
            boolean plain = isPlain(state);
            Check.due("its second byte in state " + state, b.x.state(who(state), 2), plain ? 80 : NONE);
            Check.due("the alert in state " + state, b.x.state(who(state), 1), plain ? NONE : 10);
        }
        for (int state : new int[] {2, 3, 5, 6}) {
            Bench b = in(state);
            Check.due("a sealed ALERT", b.giveSealed(who(state), Crypto.bytes(2, 80, 21)), 7);
            Check.due("its second byte in state " + state, b.x.state(who(state), 2), 80);
        }
    }

    /** 17 bytes are the inner type and the seal. */
    @Says(promise = {10, 11}, part = "III", text = "opened: fewer than 17 bytes, or the seal is not right: 20;")
    private static void seventeenBytesAreOpened() {
        for (int end = 0; end < 2; end++) {
            for (int n = 0; n <= 2; n++) {
                Bench b = Bench.connected();
                byte[] inner = n == 0 ? Crypto.NOTHING : Crypto.join(Bench.row(n - 1, 1), Crypto.bytes(23));
                Check.due("sealed rightly, " + (n + 16), b.giveSealed(end, inner), n == 0 ? 7 : 6);
                Check.due("the alert", b.x.state(end, 1), n == 0 ? 20 : NONE);
                Check.due("what is opened counts", b.x.state(end, 6), n == 0 ? 0 : 1);
                Check.due("bytes given", b.x.state(end, 4), Math.max(0, n - 1));
            }
            Bench b = Bench.connected();
            byte[] short15 = Arrays.copyOf(Crypto.seal(b.secretBytes(end, 1), 0, Crypto.NOTHING), 20);
            short15[4] = 15;
            Check.due("15 bytes", b.giveBytes(end, short15), 7);
            b.dueAlert("15 bytes", end, 20);
        }
    }

    /** The five bytes ahead go beside what is sealed: another length in them is another seal. */
    @Says(promise = {10, 11}, part = "I", text = "with the five bytes ahead as what goes beside;")
    private static void theBytesAheadAreSealed() {
        Bench b = Bench.connected();
        byte[] right = Crypto.seal(b.secretBytes(0, 1), 0, Crypto.bytes(1, 2, 23));
        byte[] longer = Arrays.copyOf(right, right.length + 1);
        longer[4]++;
        dueGiven("a byte more, told so", 6, longer, 20);
        byte[] shorter = Arrays.copyOf(right, right.length - 1);
        shorter[4]--;
        dueGiven("a byte less, told so", 6, shorter, 20);
        Check.due("the right one", b.giveBytes(0, right), 6);
    }

    @Says(promise = {10, 11}, part = "III", text = "nothing but zeros in it: 10;")
    private static void nothingButZeros() {
        for (int n : new int[] {1, 2, 578, 579}) {
            dueSealed(n + " zeros", 6, new byte[n], 10);
            for (int at : new int[] {0, n - 1}) {
                Bench b = Bench.connected();
                byte[] inner = new byte[n];
                inner[at] = 23;
                Check.due("one of " + n + " is the inner type, at " + at, b.giveSealed(0, inner), 6);
                Check.due("what stands ahead of it is given", b.x.state(0, 4), at);
            }
        }
        Bench b = Bench.connected();
        b.giveSealed(0, new byte[1]);
        Check.due("what is opened counts", b.x.state(0, 6), 1);
    }

    @Says(promise = {10, 11}, part = "I", text = "At reading zeros behind the inner type are allowed.")
    private static void zerosBehindTheInnerType() {
        for (int zeros : new int[] {0, 1, 2, 15, 16, 574}) {
            Bench b = Bench.connected();
            byte[] inner = Crypto.join(Crypto.bytes(9, 0, 0, 8, 23), new byte[zeros]);
            Check.due(zeros + " zeros behind", b.giveSealed(1, inner), 6);
            Check.dueBytes("given", b.givenBytes(1), Crypto.bytes(9, 0, 0, 8));
            Bench c = Bench.in(5, 1);
            Check.due("an ALERT with zeros", c.giveSealed(1, Crypto.join(Crypto.bytes(2, 0, 21), new byte[zeros])), 7);
            Check.due("its second byte", c.x.state(1, 2), 0);
        }
    }

    @Says(promise = {10, 11}, part = "III", text = "ALERT: not two bytes: 50;")
    private static void alertsOfTwoBytes() {
        for (int state = 1; state <= 6; state++) {
            for (int n : new int[] {0, 1, 3, 4, 258}) {
                byte[] body = Arrays.copyOf(Crypto.bytes(1), n);
                if (isPlain(state)) {
                    dueGiven("an ALERT of " + n, state, Crypto.record(21, body), 50);
                } else {
                    dueSealed("an ALERT of " + n, state, Crypto.join(body, Crypto.bytes(21)), 50);
                }
            }
        }
    }

    @Says(promise = {10, 11}, part = "III", text = "1, 0: closed (in states 1 to 5: FAILED, too); else FAILED (no alert in turn).")
    private static void alertsBesideOneZero() {
        int[][] others = {{1, 1}, {1, 255}, {0, 0}, {2, 0}, {0, 1}, {255, 0}, {2, 2}, {1, 128}};
        for (int[] other : others) {
            for (int end = 0; end < 2; end++) {
                Bench b = Bench.connected();
                Check.due(other[0] + ", " + other[1], b.giveSealed(end, Crypto.bytes(other[0], other[1], 21)), 7);
                Check.due("its second byte", b.x.state(end, 2), other[1]);
                Check.due("the other side has not closed", b.x.state(end, 8), 0);
                Check.due("no alert in turn", b.x.state(end, 3), 0);
            }
        }
    }

    @Says(promise = {10, 11}, part = "III", text = "DATA (inner 23): not CONNECTED: 10; else its bytes are given.")
    private static void dataIsForConnected() {
        for (int state : new int[] {2, 3, 5}) {
            dueSealed("data", state, Crypto.bytes(1, 23), 10);
            dueSealed("no data", state, Crypto.bytes(23), 10);
            Bench b = in(state);
            b.giveSealed(who(state), Crypto.bytes(1, 23));
            Check.due("nothing is given in state " + state, b.x.state(who(state), 4), 0);
        }
        for (int end = 0; end < 2; end++) {
            Bench b = Bench.connected();
            Check.due("data", b.giveSealed(end, Crypto.bytes(1, 2, 23)), 6);
            Check.dueBytes("given", b.givenBytes(end), Crypto.bytes(1, 2));
            Check.due("no data", b.giveSealed(end, Crypto.bytes(23)), 6);
            Check.due("given still", b.x.state(end, 4), 2);
        }
    }

    /** A kind that is waited for tells a whole message (47 or 50 for its body) from one that isn't (50). */
    @Says(promise = {10, 11}, part = "III", text = "HANDSHAKE: no whole message, or more: 50;")
    private static void lengthsOfMessages() {
        for (int state : new int[] {1, 4}) {
            int kind = state == 1 ? 2 : 1;
            for (int n : new int[] {0, 1, 255, 256, 257, 590, 591}) {
                byte[] whole = Crypto.message(kind, new byte[n]);
                dueMessage("a body of " + n, state, whole, 47);
                dueMessage("a body of " + n + ", told one more", state, changed(whole, 3, whole[3] + 1), 50);
                dueMessage("a body of " + n + ", told one less", state, changed(whole, 3, whole[3] - 1), 50);
                dueMessage("a body of " + n + ", told 256 more", state, changed(whole, 2, whole[2] + 1), 50);
                dueMessage("a body of " + n + ", told 65536 more", state, changed(whole, 1, 1), 50);
            }
            for (int n = 0; n < 4; n++) {
                dueMessage(n + " bytes", state, Arrays.copyOf(Crypto.bytes(kind, 0, 0, 0), n), 50);
            }
            dueMessage("two", state, Crypto.join(Crypto.message(kind, Crypto.NOTHING), Crypto.message(kind, Crypto.NOTHING)), 50);
        }
        byte[] hello = Crypto.serverHello(Bench.SERVER_RANDOM);
        dueMessage("SERVERHELLO and a zero", 1, Crypto.join(hello, Crypto.bytes(0)), 50);
        dueMessage("SERVERHELLO less one byte", 1, Arrays.copyOf(hello, hello.length - 1), 50);
        dueMessage("CLIENTHELLO and a zero", 4, Crypto.join(HELLO, Crypto.bytes(0)), 50);
        dueMessage("CLIENTHELLO less one byte", 4, Arrays.copyOf(HELLO, HELLO.length - 1), 50);
        dueMessage("EXTENSIONS and a zero", 2, Crypto.join(Crypto.extensions(), Crypto.bytes(0)), 50);
        dueMessage("EXTENSIONS less one byte", 2, Crypto.bytes(8, 0, 0, 2, 0), 50);
        dueMessage("UPDATE and a zero", 6, Crypto.join(Crypto.update(0), Crypto.bytes(0)), 50);
        dueMessage("UPDATE less one byte", 6, Crypto.bytes(24, 0, 0, 1), 50);
    }

    /** The NAME's own edges, told rightly by all lengths of the CLIENTHELLO. */
    @Says(promise = {10, 11}, part = "I",
        text = "NAME (1 to 16; one of another length in a CLIENTHELLO: its body is not as II tells), ")
    private static void namesOfAnotherLength() {
        for (int n : new int[] {0, 1, 2, 15, 16, 17, 18, 255, 256, 257}) {
            byte[] name = Bench.row(n, 33);
            byte[] hello = Crypto.clientHello(Bench.PSK, name, Bench.CLIENT_RANDOM);
            dueMessage("a NAME of " + n, 4, hello, n < 1 || n > 16 ? 47 : 115);
            if (n >= 1 && n <= 16) {
                Bench b = new Bench();
                b.x.make(true);
                b.tellAll(0, Bench.PSK, name, Bench.SERVER_RANDOM);
                b.x.start(0);
                Check.due("the END's own NAME of " + n, b.giveBytes(0, Crypto.record(22, hello)), 5);
            }
        }
    }

    @Says(promise = {10, 11}, part = "III", text = "a NAME that isn't the END's: 115;")
    private static void namesThatDifferALittle() {
        for (int i = 0; i < Bench.NAME.length; i++) {
            byte[] name = Bench.NAME.clone();
            name[i] ^= 1;
            dueMessage("byte " + i, 4, Crypto.clientHello(Bench.PSK, name, Bench.CLIENT_RANDOM), 115);
        }
        byte[] one = Arrays.copyOf(Bench.NAME, 1);
        dueMessage("its first byte", 4, Crypto.clientHello(Bench.PSK, one, Bench.CLIENT_RANDOM), 115);
    }

    @Says(promise = {10, 11}, part = "III", text = "a BINDER or FINISHED that isn't right: 51.")
    private static void everyByteOfAProof() {
        for (int at = HELLO.length - 32; at < HELLO.length; at++) {
            dueMessage("BINDER, byte " + at, 4, changed(HELLO, at, HELLO[at] ^ 1), 51);
        }
        byte[] log = Crypto.join(HELLO, Crypto.serverHello(Bench.SERVER_RANDOM), Crypto.extensions());
        byte[] servers = Crypto.finished(Bench.waiting().secretBytes(0, 1), log);
        byte[] clients = Crypto.finished(Bench.answered().secretBytes(1, 1), Crypto.join(log, servers));
        for (int at = 4; at < 36; at++) {
            dueMessage("the server's FINISHED, byte " + at, 3, changed(servers, at, servers[at] ^ 128), 51);
            dueMessage("the client's FINISHED, byte " + at, 5, changed(clients, at, clients[at] ^ 128), 51);
        }
    }

    @Says(promise = {10, 11}, part = "III", text = "UPDATE above 1: 47;")
    private static void updatesUpToOne() {
        for (int end = 0; end < 2; end++) {
            for (int ask : new int[] {0, 1, 2, 3, 127, 128, 254, 255}) {
                Bench b = Bench.connected();
                byte[] reads = b.secretBytes(end, 1);
                int state = b.giveSealed(end, Crypto.join(Crypto.update(ask), Crypto.bytes(22)));
                Check.due("UPDATE " + ask, state, ask > 1 ? 7 : 6);
                Check.due("the alert", b.x.state(end, 1), ask > 1 ? 47 : NONE);
                Check.due("records written", b.x.state(end, 3), ask == 0 ? 0 : 1);
                Check.dueBytes("it reads by", b.secretBytes(end, 1), ask > 1 ? reads : Crypto.next(reads));
                Check.due("the number", b.x.state(end, 6), ask > 1 ? 1 : 0);
            }
        }
    }

    @Says(promise = {10, 11}, part = "III", text = "Other types: 10.")
    private static void typesBesideThose() {
        for (int type = 0; type < 256; type++) {
            boolean known = type >= 20 && type <= 23;
            if (!known) {
                dueGiven("type " + type, 1, Crypto.record(type, Crypto.bytes(1, 0)), 10);
                dueGiven("type " + type, 4, Crypto.record(type, Crypto.bytes(1, 0)), 10);
            }
            if (type != 0 && (!known || type == 20)) {
                dueSealed("inner type " + type, 6, Crypto.bytes(1, 0, type), 10);
            }
        }
        dueSealed("inner type 20 with 1", 5, Crypto.bytes(1, 20), 10);
    }

    @Says(promise = {10, 11}, part = "I", text = "Types: 20, 21 ALERT, 22 HANDSHAKE, 23 SEALED.")
    private static void typesThatAreKnown() {
        Check.due("20", Bench.started().giveBytes(0, Crypto.record(20, Crypto.bytes(1))), 1);
        Bench b = Bench.started();
        Check.due("21", b.giveBytes(0, Crypto.record(21, Crypto.bytes(2, 33))), 7);
        Check.due("it is an ALERT", b.x.state(0, 2), 33);
        Check.due("22", Bench.started().giveBytes(1, Crypto.record(22, HELLO)), 5);
        Bench c = Bench.connected();
        Check.due("23", c.giveSealed(0, Crypto.bytes(7, 23)), 6);
        Check.due("it is opened", c.x.given(0, 0), 7);
    }

    /** Each alert's number is in its record, and the END is FAILED. */
    @Says(promise = {10, 11, 14}, part = "III", text = "An alert: the END writes ALERT 2 and that number "
        + "(SEALED by the keys that it writes by, if it has some), and is FAILED.")
    @Says(promise = 17, part = "II", text = "7 FAILED.")
    private static void everyAlertIsWritten() {
        dueWritten(4, Crypto.record(24, Crypto.NOTHING), 10);
        dueWritten(4, Crypto.bytes(22, 3, 3, 0x40, 1), 22);
        dueWritten(4, Crypto.record(22, Crypto.message(1, Crypto.NOTHING)), 47);
        dueWritten(4, Crypto.NOTHING, 50);
        dueWritten(4, Crypto.record(22, changed(HELLO, HELLO.length - 1, 0)), 51);
        dueWritten(4, Crypto.bytes(22, 3, 1, 0, 0), 70);
        dueWritten(4, Crypto.record(22, Crypto.clientHello(Bench.PSK, Bench.row(4, 65), Bench.CLIENT_RANDOM)), 115);
        for (int state : new int[] {2, 3, 5, 6}) {
            dueWritten(state, Crypto.record(23, new byte[17]), 20);
            dueWritten(state, Crypto.record(22, Crypto.NOTHING), 10);
            dueWritten(state, Crypto.bytes(22, 3, 3, 0x40, 1), 22);
        }
    }

    private static void dueWritten(int state, byte[] bytes, int alert) {
        Bench b = in(state);
        int end = who(state);
        int last = b.x.state(end, 3);
        byte[] want = Crypto.record(21, Crypto.bytes(2, alert));
        if (!isPlain(state)) {
            want = Crypto.seal(b.secretBytes(end, 0), b.x.state(end, 5), Crypto.bytes(2, alert, 21));
        }
        Check.due("alert " + alert + " in state " + state, b.giveBytes(end, bytes), 7);
        b.dueAlert("alert " + alert, end, alert);
        Check.dueBytes("the record of alert " + alert, b.writtenRecord(end, last), want);
        Check.due("none behind it", b.x.written(end, last + 1, 0), NONE);
    }
}
