/** Promises 16 and 17: the secrets and the states of ENDS. */
public final class AnswersTest {
    private static final int NONE = SecretEnds.NONE;

    private AnswersTest() {
    }

    public static void main(String[] args) {
        Check.run(AnswersTest.class);
    }

    private static byte[] upToServerHello() {
        return Crypto.join(Crypto.clientHello(Bench.PSK, Bench.NAME, Bench.CLIENT_RANDOM),
            Crypto.serverHello(Bench.SERVER_RANDOM));
    }

    private static byte[] hand(String who) {
        return Crypto.expand(Crypto.hand(Bench.PSK), who + " hs traffic", Crypto.sha(upToServerHello()));
    }

    private static byte[] main(String who) {
        byte[] log = Crypto.join(upToServerHello(), Crypto.extensions());
        log = Crypto.join(log, Crypto.finished(hand("s"), log));
        return Crypto.expand(Crypto.main(Bench.PSK), who + " ap traffic", Crypto.sha(log));
    }

    private static void dueSecrets(String when, Bench b, int end, byte[] writes, byte[] reads) {
        Check.dueBytes(when + ": END " + end + " writes by", b.secretBytes(end, 0), writes);
        Check.dueBytes(when + ": END " + end + " reads by", b.secretBytes(end, 1), reads);
    }

    @Says(promise = 16, text = "of the traffic secret by which an END writes (what 0), reads (1).")
    @Says(promise = 16, part = "I", text = "HM(k, m) HMAC by it; EX(s, label, c, n): HKDF-Expand-Label of RFC 8446; "
        + "n is 32 where it isn't told. Z are 32 bytes 0; E is H of nothing.")
    @Says(promise = 16, part = "I", text = "THE SCHEDULE: early = HM(Z, SECRET) (HKDF-Extract: HM(salt, what)); "
        + "hand = HM(EX(early, \"derived\", E), Z); main = HM(EX(hand, \"derived\", E), Z). "
        + "T: H of all messages (kind, length, body) of both, one behind the other, up to a place. "
        + "Traffic secrets: EX(hand, \"c hs traffic\", T) of the client, \"s hs traffic\" of the server, "
        + "T up to SERVERHELLO; EX(main, \"c ap traffic\", T), \"s ap traffic\", T up to the server's FINISHED.")
    @Says(promise = 16, part = "II", text = "all behind the writer's FINISHED by the ap ones; "
        + "what is read likewise: behind the other one's FINISHED.)")
    private static void secretsOfAHandshake() {
        Bench b = Bench.answered();
        dueSecrets("answered", b, 1, main("s"), hand("c"));
        Check.due("the client has none to write by", b.x.secret(0, 0, 0), NONE);
        Check.due("nor to read by", b.x.secret(0, 1, 0), NONE);
        b.x.carry(1, 0);
        dueSecrets("state 2", b, 0, hand("c"), hand("s"));
        b.x.carry(1, 0);
        dueSecrets("state 3", b, 0, hand("c"), hand("s"));
        Bench c = Bench.connected();
        dueSecrets("CONNECTED", c, 0, main("c"), main("s"));
        dueSecrets("CONNECTED", c, 1, main("s"), main("c"));
    }

    @Says(promise = 16, text = "of the traffic secret by which an END writes (what 0), reads (1).")
    private static void secretsStayWithOneFailed() {
        Bench b = Bench.connected();
        b.giveBytes(1, Crypto.bytes(0));
        dueSecrets("FAILED", b, 1, main("s"), main("c"));
        Bench c = Bench.waiting();
        c.giveBytes(0, Crypto.bytes(0));
        dueSecrets("FAILED in state 3", c, 0, hand("c"), hand("s"));
    }

    /** Two connections by turns, with the tape's hash asked for between. */
    @Says(promise = 16, text = "of the traffic secret by which an END writes (what 0), reads (1).")
    private static void connectionsDoNotMix() {
        Bench b = Bench.told();
        b.x.make(true);
        b.x.make(false);
        byte[] psk = Bench.row(33, 60);
        b.tellAll(2, psk, Bench.row(16, 1), Bench.row(32, 5));
        b.tellAll(3, psk, Bench.row(16, 1), Bench.row(32, 9));
        for (int end = 0; end < 4; end++) {
            b.x.start(end);
        }
        int[][] ways = {{0, 1}, {3, 2}, {1, 0}, {2, 3}, {1, 0}, {2, 3}, {1, 0}, {2, 3}, {0, 1}, {3, 2}};
        for (int[] way : ways) {
            b.put(Bench.row(30, way[0]));
            b.x.hash(0);
            Check.due("carry", b.x.carry(way[0], way[1]) != 7, true);
        }
        dueSecrets("by turns", b, 0, main("c"), main("s"));
        dueSecrets("by turns", b, 1, main("s"), main("c"));
        Check.due("the other server", b.x.state(2, 0), 6);
        Check.dueBytes("the others have the same", b.secretBytes(2, 0), b.secretBytes(3, 1));
        Check.dueBytes("both ways", b.secretBytes(2, 1), b.secretBytes(3, 0));
    }

    /** The first and the last of four ENDS answer every call, those beside them none. */
    @Says(promise = {7, 8, 9, 10, 11, 12, 13, 14, 15, 16, 17}, part = "I", text = "an END 0 .. 3: a client or a server;")
    private static void everyCallKnowsFourEnds() {
        for (int end = 0; end < 4; end++) {
            Counted x = Bench.four().x;
            x.feed(1, 2, 3, 4, 5);
            Check.due("say(" + end + ")", x.say(end), 1);
            Check.due("meddle(" + end + ", 1)", x.meddle(end, 1), true);
            Check.due("alter(" + end + ", 0, 4)", x.alter(end, 0, 4), true);
            Check.due("written(" + end + ", 0, 0)", x.written(end, 0, 0), 19);
            Check.due("meddle(" + end + ", 0)", x.meddle(end, 0), true);
            Check.due("carry(" + end + ", " + (end ^ 1) + ")", x.carry(end, end ^ 1), 6);
            Check.due("given(" + (end ^ 1) + ", 19)", x.given(end ^ 1, 19), 5);
            Check.due("update(" + end + ", 0)", x.update(end, 0), 1);
            Check.due("secret(" + end + ", 0, 31) is there", x.secret(end, 0, 31) != NONE, true);
            Check.due("close(" + end + ")", x.close(end), true);
            Check.due("state(" + end + ", 7)", x.state(end, 7), 1);
            Check.due("give(" + end + ")", x.give(end), 7);
        }
        Twins twins = new Twins(() -> {
            Bench b = Bench.four();
            b.sayBytes(0, Crypto.bytes(7));
            b.sayBytes(3, Crypto.bytes(8));
            b.put(Bench.row(3, 1));
            return b;
        });
        for (int end : new int[] {-2, -1, 4, 5}) {
            twins.dueNone("say(" + end + ")", x -> x.say(end));
            twins.dueFalse("meddle(" + end + ", 1)", x -> x.meddle(end, 1));
            twins.dueFalse("alter(" + end + ", 0, 4)", x -> x.alter(end, 0, 4));
            twins.dueNone("written(" + end + ", 0, 0)", x -> x.written(end, 0, 0));
            twins.dueNone("carry(" + end + ", 0)", x -> x.carry(end, 0));
            twins.dueNone("carry(3, " + end + ")", x -> x.carry(3, end));
            twins.dueNone("given(" + end + ", 0)", x -> x.given(end, 0));
            twins.dueNone("update(" + end + ", 0)", x -> x.update(end, 0));
            twins.dueNone("secret(" + end + ", 0, 31)", x -> x.secret(end, 0, 31));
            twins.dueFalse("close(" + end + ")", x -> x.close(end));
            twins.dueNone("state(" + end + ", 7)", x -> x.state(end, 7));
            twins.dueNone("give(" + end + ")", x -> x.give(end));
        }
    }

    @Says(promise = 17, text = "Of an END: 0 its state, ")
    @Says(promise = {6, 10, 17}, part = "II", text = "STATES: 0 MADE. A client that starts writes CLIENTHELLO: 1, "
        + "waits for SERVERHELLO; 2, for EXTENSIONS; 3, for FINISHED: then it writes its own and is 6 CONNECTED. "
        + "A server that starts: 4, waits for CLIENTHELLO; then it writes SERVERHELLO, EXTENSIONS, FINISHED: 5, "
        + "waits for FINISHED; 6.")
    private static void statesOfAHandshake() {
        Bench b = Bench.told();
        Check.due("MADE", b.x.state(0, 0), 0);
        b.x.start(0);
        b.x.start(1);
        Check.due("a client that starts", b.x.state(0, 0), 1);
        Check.due("a server that starts", b.x.state(1, 0), 4);
        int[][] ways = {{0, 1, 1, 5}, {1, 0, 2, 5}, {1, 0, 3, 5}, {1, 0, 6, 5}, {0, 1, 6, 6}};
        for (int[] way : ways) {
            b.x.carry(way[0], way[1]);
            Check.due("the client", b.x.state(0, 0), way[2]);
            Check.due("the server", b.x.state(1, 0), way[3]);
        }
        for (int end = 0; end < 2; end++) {
            int[] want = {6, NONE, NONE, 0, 0, 0, 0, 0, 0, end};
            for (int what = 0; what < want.length; what++) {
                Check.due("state(" + end + ", " + what + ") CONNECTED", b.x.state(end, what), want[what]);
            }
        }
    }

    private static void dueNumbers(String when, Bench b, int end, int written, int read) {
        Check.due(when + ": END " + end + " writes number", b.x.state(end, 5), written);
        Check.due(when + ": END " + end + " reads number", b.x.state(end, 6), read);
    }

    @Says(promise = 17, text = "5, 6 the number of its next record written, read, by the keys at hand (0 without), ")
    private static void numbersOfAHandshake() {
        Bench b = Bench.started();
        dueNumbers("started", b, 0, 0, 0);
        b.x.carry(0, 1);
        dueNumbers("behind its FINISHED", b, 1, 0, 0);
        b.x.carry(1, 0);
        dueNumbers("state 2", b, 0, 0, 0);
        b.x.carry(1, 0);
        dueNumbers("state 3", b, 0, 0, 1);
        b.giveBytes(0, Crypto.record(20, Crypto.bytes(1)));
        dueNumbers("type 20 does not count", b, 0, 0, 1);
        b.x.carry(1, 0);
        dueNumbers("CONNECTED", b, 0, 0, 0);
        b.sayBytes(0, Crypto.bytes(1));
        b.sayBytes(0, Crypto.bytes(2));
        dueNumbers("two are said", b, 0, 2, 0);
        b.x.carry(0, 1);
        b.x.carry(0, 1);
        dueNumbers("one is read", b, 1, 0, 1);
        b.x.alter(0, 8, 1);
        b.x.carry(0, 1);
        dueNumbers("what is not opened does not count; the alert does", b, 1, 1, 1);
    }

    @Says(promise = 17, text = "1 the alert that it came to by what it read (NONE;")
    @Says(promise = 17, text = "2 the second byte of the ALERT by which it FAILED (NONE), ")
    private static void statesOfAlerts() {
        Bench b = Bench.connected();
        b.x.meddle(0, 1);
        b.giveBytes(1, Crypto.bytes(23, 3, 3, 255, 255));
        Check.due("its alert", b.x.state(1, 1), 22);
        Check.due("it read none", b.x.state(1, 2), NONE);
        b.x.carry(1, 0);
        Check.due("FAILED by an ALERT", b.x.state(0, 0), 7);
        Check.due("it came to no alert", b.x.state(0, 1), NONE);
        Check.due("the ALERT's second byte", b.x.state(0, 2), 22);
        Check.due("the other side has not closed", b.x.state(0, 8), 0);
        Check.due("no alert in turn", b.x.state(0, 3), 0);
    }

    @Says(promise = 16, text = "Byte i (0 .. 31) of the traffic secret")
    @Says(promise = 16, text = "and for others.")
    private static void secretsHaveThirtyTwoBytes() {
        Twins twins = new Twins(Bench::connected);
        byte[][] want = {main("c"), main("s")};
        for (int n = 0; n < 2; n++) {
            int what = n;
            for (int i : new int[] {0, 1, 30, 31}) {
                twins.dueUnchanged("secret(0, " + what + ", " + i + ")", x -> x.secret(0, what, i), want[what][i] & 255);
            }
            for (int i : new int[] {-1, -2, 32, 33, Integer.MAX_VALUE, Integer.MIN_VALUE}) {
                twins.dueNone("secret(0, " + what + ", " + i + ")", x -> x.secret(0, what, i));
                twins.dueNone("secret(1, " + what + ", " + i + ")", x -> x.secret(1, what, i));
            }
        }
    }

    @Says(promise = 16, text = "and for others.")
    private static void secretRefusesOthers() {
        Twins twins = new Twins(Bench::connected);
        for (int what : new int[] {-1, -2, 2, 3, Integer.MAX_VALUE, Integer.MIN_VALUE}) {
            twins.dueNone("secret(0, " + what + ", 0)", x -> x.secret(0, what, 0));
        }
        for (int end : Bench.NO_ENDS) {
            twins.dueNone("secret(" + end + ", 0, 0)", x -> x.secret(end, 0, 0));
            twins.dueNone("secret(" + end + ", 1, 0)", x -> x.secret(end, 1, 0));
        }
    }

    /** A client has both from state 2 on, a server from 5; one that FAILED ahead of that never. */
    @Says(promise = 16, text = "NONE without one, ")
    @Says(promise = 17, text = "(0 without)")
    private static void noSecretsAheadOfTheHellos() {
        for (int[] place : Bench.PLACES) {
            boolean has = place[0] == 2 || place[0] == 3 || place[0] >= 5;
            dueHas("state " + place[0], Bench.in(place[0], place[1]), place[1], has);
        }
        for (int end = 0; end < 2; end++) {
            Bench b = Bench.started();
            Check.due("nothing is given", b.giveBytes(end, Crypto.NOTHING), 7);
            dueHas("FAILED ahead of the hellos", b, end, false);
            dueNumbers("FAILED ahead of the hellos", b, end, 0, 0);
        }
    }

    private static void dueHas(String when, Bench b, int end, boolean has) {
        for (int what = 0; what < 2; what++) {
            for (int i : new int[] {0, 31}) {
                int got = b.x.secret(end, what, i);
                Check.due(when + ": secret(" + end + ", " + what + ", " + i + ") is there", got != NONE, has);
            }
        }
    }

    @Says(promise = 17, text = "1 the alert that it came to by what it read (NONE;")
    private static void noAlertWhereNoneCame() {
        for (int[] place : Bench.PLACES) {
            int want = place[0] == 7 ? 50 : NONE;
            Check.due("in state " + place[0], Bench.in(place[0], place[1]).x.state(place[1], 1), want);
        }
        Bench b = Bench.connected();
        b.giveSealed(0, Crypto.bytes(2, 50, 21));
        Check.due("FAILED by an ALERT", b.x.state(0, 0), 7);
        Check.due("it came to none itself", b.x.state(0, 1), NONE);
    }

    @Says(promise = 17, text = "also where it couldn't be written)")
    private static void theAlertIsToldWhereItCouldNotBeWritten() {
        for (int records : new int[] {31, 32}) {
            Bench b = Bench.said(0, 1).doubled(0, records);
            Check.due("nothing is given", b.giveBytes(0, Crypto.NOTHING), 7);
            Check.due("the alert at " + records, b.x.state(0, 1), 50);
            Check.due("records", b.x.state(0, 3), 32);
        }
        Bench closed = Bench.connected();
        closed.x.close(0);
        Check.due("nothing is given", closed.giveBytes(0, Crypto.NOTHING), 7);
        Check.due("the alert of one that has closed", closed.x.state(0, 1), 50);
    }

    @Says(promise = 17, text = "2 the second byte of the ALERT by which it FAILED (NONE), ")
    private static void theSecondByteFromNoneTo255() {
        int[][] all = {{1, 0, NONE}, {1, 1, 1}, {2, 0, 0}, {2, 1, 1}, {2, 254, 254}, {2, 255, 255}, {0, 0, 0}, {255, 0, 0}};
        for (int[] one : all) {
            Bench b = Bench.connected();
            b.giveSealed(1, Crypto.bytes(one[0], one[1], 21));
            Check.due("ALERT " + one[0] + ", " + one[1], b.x.state(1, 2), one[2]);
            Check.due("its state", b.x.state(1, 0), one[2] == NONE ? 6 : 7);
        }
        Bench b = Bench.started();
        b.giveBytes(1, Crypto.record(21, Crypto.bytes(1, 0)));
        Check.due("1, 0 ahead of CONNECTED", b.x.state(1, 2), 0);
        Bench c = Bench.in(7, 0);
        Check.due("FAILED by an alert of its own", c.x.state(0, 2), NONE);
    }

    @Says(promise = 17, text = "3 records that lie there, ")
    private static void recordsFromNoneToThirtyTwo() {
        for (int n : new int[] {0, 1, 2, 31, 32}) {
            Bench b = Bench.said(1, n);
            Check.due("said " + n, b.x.state(1, 3), n);
            Check.due("the other's", b.x.state(0, 3), 0);
            int left = Math.max(0, n - 1);
            Check.due("one is carried", b.x.carry(1, 0), n == 0 ? NONE : 6);
            Check.due("one less", b.x.state(1, 3), left);
        }
    }

    @Says(promise = 17, text = "4 bytes given, ")
    private static void bytesGivenFromNone() {
        for (int n : new int[] {0, 1, 2, 577, 578}) {
            Bench b = Bench.connected();
            byte[] inner = Crypto.join(Bench.row(n, 1), Crypto.bytes(23));
            Check.due("give", b.giveSealed(0, inner), 6);
            Check.due("bytes given", b.x.state(0, 4), n);
            Check.due("the other's", b.x.state(1, 4), 0);
        }
    }

    /** So many records by one key as 512 calls leave room for, around where a byte's highest bit is set. */
    @Says(promise = 17, text = "5, 6 the number of its next record written, read, by the keys at hand (0 without), ")
    @Says(promise = {7, 10, 14}, part = "I",
        text = "the nonce: the beginning xor the number of records by this key (from 0), in its last 8 bytes.")
    @Says(promise = {7, 14}, part = "I", text = "Of a traffic secret s the key is EX(s, \"key\", nothing), "
        + "the beginning of nonces EX(s, \"iv\", nothing, 12), finished EX(s, \"finished\", nothing);")
    private static void numbersOfManyRecords() {
        for (int n : new int[] {0, 1, 2, 126, 127, 128, 129}) {
            Bench b = Bench.connected();
            for (int i = 0; i < n; i++) {
                b.x.feed(i, i, i, i, i);
                Check.due("say " + i, b.x.say(0), 1);
                Check.due("it is read", b.x.carry(0, 1), 6);
            }
            dueNumbers("said and read " + n, b, 0, n, 0);
            dueNumbers("said and read " + n, b, 1, 0, n);
            b.x.feed(1, 2, 3, 4, 5);
            Check.due("say", b.x.say(0), 1);
            byte[] words = Crypto.bytes(0, 0, 0, 1, 0, 0, 0, 2, 0, 0, 0, 3, 0, 0, 0, 4, 0, 0, 0, 5, 23);
            Check.dueBytes("number " + n, b.writtenRecord(0, 0), Crypto.seal(main("c"), n, words));
        }
    }

    @Says(promise = 17, text = "7 whether it has closed, ")
    @Says(promise = 17, text = "8 whether the other side has, ")
    private static void whoHasClosed() {
        for (int end = 0; end < 2; end++) {
            Bench b = Bench.connected();
            dueClosed(b, end, 0, 0, 0, 0);
            b.x.close(end);
            dueClosed(b, end, 1, 0, 0, 0);
            b.x.carry(end, 1 - end);
            dueClosed(b, end, 1, 0, 0, 1);
            b.x.close(1 - end);
            dueClosed(b, end, 1, 0, 1, 1);
            b.x.carry(1 - end, end);
            dueClosed(b, end, 1, 1, 1, 1);
        }
    }

    private static void dueClosed(Bench b, int end, int has, int otherHas, int ofOther, int otherOfOther) {
        Check.due("it has closed", b.x.state(end, 7), has);
        Check.due("the other side has", b.x.state(end, 8), otherHas);
        Check.due("the other one has closed", b.x.state(1 - end, 7), ofOther);
        Check.due("its other side has", b.x.state(1 - end, 8), otherOfOther);
    }

    @Says(promise = 17, text = "9 whether it is a server (1, 0 each).")
    private static void whoIsAServer() {
        for (int[] place : Bench.PLACES) {
            Check.due("in state " + place[0], Bench.in(place[0], place[1]).x.state(place[1], 9), place[1]);
        }
    }

    @Says(promise = 17, text = "NONE for others.")
    private static void stateRefusesOthers() {
        Twins twins = new Twins(Bench::connected);
        int[] want = {6, NONE, NONE, 0, 0, 0, 0, 0, 0, 1};
        for (int what : new int[] {0, 1, 8, 9}) {
            twins.dueUnchanged("state(1, " + what + ")", x -> x.state(1, what), want[what]);
        }
        for (int what : new int[] {-1, -2, 10, 11, Integer.MAX_VALUE, Integer.MIN_VALUE}) {
            twins.dueNone("state(0, " + what + ")", x -> x.state(0, what));
            twins.dueNone("state(1, " + what + ")", x -> x.state(1, what));
        }
        for (int end : Bench.NO_ENDS) {
            for (int n = 0; n < 10; n++) {
                int what = n;
                twins.dueNone("state(" + end + ", " + what + ")", x -> x.state(end, what));
            }
        }
    }

    /** Of 512 calls the last ones answer as the first do. */
    @Says(promise = {7, 14, 17, 18}, part = Doc.USE, text = "An object is used for at most 512 calls after it has been made;")
    private static void theLastOfAllCalls() {
        Bench b = Bench.connected();
        while (b.x.calls() < Counted.MOST - 6) {
            Check.due("hash of nothing", b.x.hash(31), 85);
        }
        Check.due("feed", b.x.feed(1, 2, 3, 4, 5), 20);
        Check.due("say", b.x.say(1), 1);
        Check.due("carry", b.x.carry(1, 0), 6);
        Check.due("given", b.x.given(0, 19), 5);
        Check.due("call 511: state", b.x.state(0, 6), 1);
        Check.due("call 512: secret", b.x.secret(0, 0, 31), main("c")[31] & 255);
        Check.due("calls", b.x.calls(), 512);
    }
}
