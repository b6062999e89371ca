import java.util.function.Supplier;

/** Promises 4, 5 and 6: ENDS are made, told and started. */
public final class MakingTest {
    private static final int NONE = SecretEnds.NONE;
    private static final int SECRET = 0;
    private static final int NAME = 1;
    private static final int RANDOM = 2;
    private static final byte[][] TOLD = {Bench.PSK, Bench.NAME, Bench.CLIENT_RANDOM};

    private MakingTest() {
    }

    public static void main(String[] args) {
        Check.run(MakingTest.class);
    }

    private static Bench made(int ends) {
        Bench b = new Bench();
        for (int end = 0; end < ends; end++) {
            Check.due("make", b.x.make(end % 2 == 1), end);
        }
        return b;
    }

    /** A pair that is told all, and a tape with so many bytes, none of them told yet. */
    private static Bench toldAndTape(int n) {
        Bench b = Bench.told();
        b.put(Bench.row(n, 140));
        return b;
    }

    private static void dueNew(Bench b, int end, boolean server) {
        int[] want = {0, NONE, NONE, 0, 0, 0, 0, 0, 0, server ? 1 : 0};
        for (int what = 0; what < want.length; what++) {
            Check.due("state(" + end + ", " + what + ") of one MADE", b.x.state(end, what), want[what]);
        }
        Check.due("no secret to write by", b.x.secret(end, 0, 0), NONE);
        Check.due("none to read by", b.x.secret(end, 1, 0), NONE);
        Check.due("it is given nothing", b.x.given(end, 0), NONE);
        Check.due("it has written nothing", b.x.written(end, 0, 0), NONE);
    }

    @Says(promise = 4, text = "An END, MADE: client (false) or server (true), ")
    @Says(promise = 4, text = ": its number.")
    @Says(promise = {4, 17}, part = "II", text = "STATES: 0 MADE.")
    private static void makeNumbersThem() {
        boolean[] servers = {true, false, false, true};
        Bench b = new Bench();
        for (int end = 0; end < servers.length; end++) {
            Check.due("make " + end, b.x.make(servers[end]), end);
        }
        for (int end = 0; end < servers.length; end++) {
            dueNew(b, end, servers[end]);
        }
    }

    @Says(promise = 4, text = "without SECRET, NAME, RANDOM")
    private static void makeTellsNothing() {
        for (int left = 0; left < 3; left++) {
            Bench b = Bench.told();
            int end = b.x.make(left == 1);
            for (int what = 0; what < 3; what++) {
                Check.due("start of one that is not told all", b.x.start(end), false);
                if (what != left) {
                    b.put(TOLD[what]);
                    Check.due("tell", b.x.tell(end, what), true);
                }
            }
            Check.due("start without " + left, b.x.start(end), false);
        }
    }

    @Says(promise = 4, text = "NONE: there are 4.")
    private static void makeStopsAtFour() {
        Check.due("make the third", made(2).x.make(true), 2);
        Check.due("make the fourth", made(3).x.make(true), 3);
        Twins full = new Twins(() -> made(4));
        full.dueNone("make a fifth, a server", x -> x.make(true));
        full.dueNone("make a fifth, a client", x -> x.make(false));
        Twins busy = new Twins(() -> {
            Bench b = Bench.connected();
            b.x.make(true);
            b.x.make(false);
            return b;
        });
        busy.dueNone("make a fifth beside a connection", x -> x.make(true));
    }

    /** An END that isn't made yet answers nothing, and keeps nothing for when it is. */
    @Says(promise = 5, text = "no such END")
    @Says(promise = 4, text = "without SECRET, NAME, RANDOM")
    private static void noneIsThereAheadOfMake() {
        for (int made = 0; made < 4; made++) {
            for (int end = made; end < 4; end++) {
                Bench b = made(made);
                dueNoSuch(b, end);
                for (int next = made; next <= end; next++) {
                    Check.due("make", b.x.make(true), next);
                }
                dueNew(b, end, true);
                Check.due("start of one that is told nothing", b.x.start(end), false);
            }
        }
    }

    private static void dueNoSuch(Bench b, int end) {
        Counted x = b.x;
        for (int what = 0; what < TOLD.length; what++) {
            b.put(TOLD[what]);
            Check.due("tell(" + end + ", " + what + ")", x.tell(end, what), false);
            Check.due("the tape stays", x.about(0), TOLD[what].length);
        }
        Check.due("start(" + end + ")", x.start(end), false);
        Check.due("say(" + end + ")", x.say(end), NONE);
        Check.due("update(" + end + ", 0)", x.update(end, 0), NONE);
        Check.due("close(" + end + ")", x.close(end), false);
        Check.due("carry(" + end + ", " + end + ")", x.carry(end, end), NONE);
        Check.due("give(" + end + ")", x.give(end), NONE);
        for (int what = 0; what < 10; what++) {
            Check.due("meddle(" + end + ", " + what + ")", x.meddle(end, what), false);
            Check.due("secret(" + end + ", " + what + ", 0)", x.secret(end, what, 0), NONE);
            Check.due("state(" + end + ", " + what + ")", x.state(end, what), NONE);
        }
        Check.due("alter(" + end + ", 0, 1)", x.alter(end, 0, 1), false);
        Check.due("written(" + end + ", 0, 0)", x.written(end, 0, 0), NONE);
        Check.due("given(" + end + ", 0)", x.given(end, 0), NONE);
    }

    @Says(promise = 5, part = "I", text = "BYTES on the tape are what is told of an END 0 .. 3: a client or a server; its ")
    private static void endsZeroToThreeAreTold() {
        for (int end = 0; end < 4; end++) {
            Bench b = made(4);
            b.tellAll(end, Bench.PSK, Bench.NAME, Bench.CLIENT_RANDOM);
            for (int other = 0; other < 4; other++) {
                Check.due("END " + end + " is told: start(" + other + ")", b.x.start(other), other == end);
            }
        }
        for (int n = 0; n < 3; n++) {
            int what = n;
            Twins twins = new Twins(() -> {
                Bench b = made(4);
                b.put(TOLD[what]);
                return b;
            });
            for (int end : new int[] {-1, -2, 4, 5, Integer.MAX_VALUE, Integer.MIN_VALUE}) {
                twins.dueFalse("tell(" + end + ", " + what + ")", x -> x.tell(end, what));
            }
        }
    }

    @Says(promise = 5, text = "The tape (empty then) is the SECRET (what 0), NAME (1), RANDOM (2) of an END")
    private static void tellTakesTheTape() {
        for (int what = 0; what < 3; what++) {
            Bench b = made(2);
            b.put(TOLD[what]);
            Check.due("tell(1, " + what + ")", b.x.tell(1, what), true);
            Check.due("the tape is empty", b.x.about(0), 0);
            Check.due("nothing of it is left", b.x.end(1), NONE);
        }
        Bench b = made(1);
        b.tellAll(0, Bench.PSK, Bench.NAME, Bench.CLIENT_RANDOM);
        Check.due("start", b.x.start(0), true);
        dueHello(b, Bench.PSK, Bench.NAME, Bench.CLIENT_RANDOM);
    }

    /** Told so many bytes, a client starts with just these; told others, it stays as it was. */
    private static void dueLengths(int what, int[] right, int[] wrong) {
        for (int n : right) {
            Bench b = toldAndTape(n);
            Check.due("tell(0, " + what + ") of " + n, b.x.tell(0, what), true);
            Check.due("the tape is empty", b.x.about(0), 0);
            byte[][] told = TOLD.clone();
            told[what] = Bench.row(n, 140);
            Check.due("start", b.x.start(0), true);
            dueHello(b, told[SECRET], told[NAME], told[RANDOM]);
        }
        for (int n : wrong) {
            Twins twins = new Twins(() -> toldAndTape(n));
            twins.dueFalse("a client is told " + n, x -> x.tell(0, what));
            twins.dueFalse("a server is told " + n, x -> x.tell(1, what));
            Bench b = made(1);
            b.put(Bench.row(n, 140));
            Check.due("one told nothing else is told " + n, b.x.tell(0, what), false);
        }
    }

    @Says(promise = 5, part = "I", text = "SECRET (1 to 64 bytes)")
    @Says(promise = 5, text = "False (the tape stays): no such END, what, bytes.")
    private static void secretsHaveOneToSixtyFour() {
        dueLengths(SECRET, new int[] {1, 2, 31, 32, 33, 63, 64}, new int[] {0, 65, 66, 600});
    }

    @Says(promise = 5, part = "I", text = "NAME (1 to 16;")
    @Says(promise = 5, text = "False (the tape stays): no such END, what, bytes.")
    private static void namesHaveOneToSixteen() {
        dueLengths(NAME, new int[] {1, 2, 15, 16}, new int[] {0, 17, 18, 64, 600});
    }

    @Says(promise = 5, part = "I", text = "RANDOM (32).")
    @Says(promise = 5, text = "False (the tape stays): no such END, what, bytes.")
    private static void randomsHaveThirtyTwo() {
        dueLengths(RANDOM, new int[] {32}, new int[] {0, 1, 16, 30, 31, 33, 34, 64, 600});
    }

    /** Both sides of a connection by a SECRET and a NAME of the edges' lengths come to the same secrets. */
    @Says(promise = {5, 10, 16}, part = "I", text = "its SECRET (1 to 64 bytes), NAME (1 to 16;")
    private static void connectionsByTheEdges() {
        for (int secret : new int[] {1, 2, 63, 64}) {
            for (int name : new int[] {1, 16}) {
                Bench b = made(2);
                byte[] psk = Bench.row(secret, 77);
                b.tellAll(0, psk, Bench.row(name, 33), Bench.CLIENT_RANDOM);
                b.tellAll(1, psk, Bench.row(name, 33), Bench.SERVER_RANDOM);
                b.shakeHands(0, 1);
                byte[] log = Crypto.join(Crypto.clientHello(psk, Bench.row(name, 33), Bench.CLIENT_RANDOM),
                    Crypto.serverHello(Bench.SERVER_RANDOM));
                byte[] hand = Crypto.expand(Crypto.hand(psk), "s hs traffic", Crypto.sha(log));
                log = Crypto.join(log, Crypto.extensions());
                log = Crypto.join(log, Crypto.finished(hand, log));
                byte[] want = Crypto.expand(Crypto.main(psk), "c ap traffic", Crypto.sha(log));
                Check.dueBytes("the client writes by", b.secretBytes(0, 0), want);
                Check.dueBytes("the server reads by", b.secretBytes(1, 1), want);
            }
        }
    }

    @Says(promise = 5, text = "no such END")
    private static void tellRefusesNoSuchEnd() {
        for (int n : new int[] {16, 32}) {
            Twins twins = new Twins(() -> toldAndTape(n));
            for (int end : Bench.NO_ENDS) {
                twins.dueFalse("tell(" + end + ", 0) of " + n, x -> x.tell(end, SECRET));
                twins.dueFalse("tell(" + end + ", .) of " + n, x -> x.tell(end, n == 16 ? NAME : RANDOM));
            }
        }
    }

    @Says(promise = 5, text = "False (the tape stays): no such END, what")
    private static void tellRefusesNoSuchWhat() {
        for (int n : new int[] {1, 16, 32}) {
            Twins twins = new Twins(() -> toldAndTape(n));
            for (int what : new int[] {-1, -2, 3, 4, Integer.MAX_VALUE, Integer.MIN_VALUE}) {
                twins.dueFalse("tell(0, " + what + ") of " + n, x -> x.tell(0, what));
                twins.dueFalse("tell(1, " + what + ") of " + n, x -> x.tell(1, what));
            }
        }
    }

    @Says(promise = 5, text = "of an END that is MADE: true.")
    private static void tellIsForEndsMade() {
        int[] lengths = {20, 16, 32};
        for (int[] place : Bench.PLACES) {
            int end = place[1];
            for (int n = 0; n < 3; n++) {
                int what = n;
                Supplier<Bench> setUp = () -> {
                    Bench b = Bench.in(place[0], end);
                    b.put(Bench.row(lengths[what], 140));
                    return b;
                };
                if (place[0] == 0) {
                    Check.due("tell one MADE", setUp.get().x.tell(end, what), true);
                } else {
                    new Twins(setUp).dueFalse("tell in state " + place[0], x -> x.tell(end, what));
                }
            }
        }
    }

    /** The last that is told counts, and nothing of a longer one stays behind it. */
    @Says(promise = 5, text = "The tape (empty then) is the SECRET (what 0), NAME (1), RANDOM (2) of an END")
    private static void tellMayBeAgain() {
        Bench b = made(1);
        b.tellAll(0, Bench.row(64, 9), Bench.row(16, 65), Bench.row(32, 77));
        b.tellAll(0, Bench.PSK, Bench.NAME, Bench.CLIENT_RANDOM);
        Check.due("start", b.x.start(0), true);
        dueHello(b, Bench.PSK, Bench.NAME, Bench.CLIENT_RANDOM);
    }

    @Says(promise = 6, text = "or something of the three isn't told.")
    private static void startWantsAllThree() {
        for (int end = 0; end < 2; end++) {
            int who = end;
            for (int told = 0; told < 7; told++) {
                int those = told;
                new Twins(() -> toldOf(who, those)).dueFalse("start with " + told + " of 7", x -> x.start(who));
                dueStartsWhenToldTheRest(who, told);
            }
            Check.due("start with all", toldOf(who, 7).x.start(who), true);
        }
    }

    /** What was told ahead of the refused start is kept: only the others have to be told. */
    private static void dueStartsWhenToldTheRest(int end, int bits) {
        Bench b = toldOf(end, bits);
        Check.due("start with " + bits + " of 7", b.x.start(end), false);
        tellOf(b, end, 7 - bits);
        Check.due("start with the rest", b.x.start(end), true);
        if (end == 0) {
            dueHello(b, Bench.PSK, Bench.NAME, Bench.CLIENT_RANDOM);
        } else {
            byte[] hello = Crypto.clientHello(Bench.PSK, Bench.NAME, Bench.SERVER_RANDOM);
            Check.due("a CLIENTHELLO", b.giveBytes(end, Crypto.record(22, hello)), 5);
        }
    }

    /** A pair of which one END is told those of the three whose bits are set. */
    private static Bench toldOf(int end, int bits) {
        Bench b = made(2);
        tellOf(b, end, bits);
        return b;
    }

    private static void tellOf(Bench b, int end, int bits) {
        for (int what = 0; what < 3; what++) {
            if ((bits >> what & 1) == 1) {
                b.put(TOLD[what]);
                Check.due("tell", b.x.tell(end, what), true);
            }
        }
    }

    @Says(promise = 6, text = "False: it isn't MADE, ")
    private static void startIsForEndsMade() {
        for (int[] place : Bench.PLACES) {
            int end = place[1];
            Supplier<Bench> setUp = () -> Bench.in(place[0], end);
            if (place[0] == 0) {
                Check.due("start one MADE", setUp.get().x.start(end), true);
            } else {
                new Twins(setUp).dueFalse("start in state " + place[0], x -> x.start(end));
            }
        }
        Twins told = new Twins(Bench::told);
        for (int end : Bench.NO_ENDS) {
            told.dueFalse("start(" + end + ")", x -> x.start(end));
        }
    }

    @Says(promise = 6, text = "An END starts: true.")
    @Says(promise = {6, 14}, part = "II", text = "MESSAGES, the bodies. CLIENTHELLO (1): 3, 3; RANDOM; 0; 0, 2, 0x13, 3; 1, 0; "
        + "the length of all that follows (2); 0, 43, 0, 3, 2, 3, 4; 0, 45, 0, 2, 1, 0; 0, 41, length (2), "
        + "length of names (2), length of NAME (2), NAME, 0, 0, 0, 0; 0, 33, 32, BINDER.")
    @Says(promise = {6, 14}, part = "II",
        text = "BINDER: HM(finished of EX(early, \"ext binder\", E), H of the message up to the 0, 33, 32).")
    private static void clientStarts() {
        byte[][] secrets = {Bench.row(1, 200), Bench.PSK, Bench.row(63, 1), Bench.row(64, 1)};
        for (byte[] secret : secrets) {
            for (int n : new int[] {1, 2, 6, 15, 16}) {
                Bench b = made(1);
                byte[] name = Bench.row(n, 250);
                b.tellAll(0, secret, name, Bench.SERVER_RANDOM);
                Check.due("start", b.x.start(0), true);
                Check.due("its state", b.x.state(0, 0), 1);
                dueHello(b, secret, name, Bench.SERVER_RANDOM);
                Check.due("start again", b.x.start(0), false);
                Check.due("one record lies there still", b.x.state(0, 3), 1);
                Check.due("no secret to write by", b.x.secret(0, 0, 0), NONE);
                Check.due("none to read by", b.x.secret(0, 1, 0), NONE);
            }
        }
    }

    private static void dueHello(Bench b, byte[] secret, byte[] name, byte[] random) {
        Check.due("records", b.x.state(0, 3), 1);
        byte[] want = Crypto.record(22, Crypto.clientHello(secret, name, random));
        Check.dueBytes("CLIENTHELLO with a NAME of " + name.length, b.writtenRecord(0, 0), want);
    }

    @Says(promise = 6, text = "An END starts: true.")
    @Says(promise = {6, 17}, part = "II", text = "A server that starts: 4, waits for CLIENTHELLO;")
    private static void serverStarts() {
        Bench b = Bench.told();
        Check.due("start", b.x.start(1), true);
        Check.due("its state", b.x.state(1, 0), 4);
        Check.due("it writes nothing", b.x.state(1, 3), 0);
        Check.due("start again", b.x.start(1), false);
        Check.due("the other is MADE", b.x.state(0, 0), 0);
    }
}
