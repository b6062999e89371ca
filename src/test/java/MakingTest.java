/** Promises 4, 5 and 6: ENDS are made, told and started. */
public final class MakingTest {
    private static final int NONE = SecretEnds.NONE;

    private MakingTest() {
    }

    public static void main(String[] args) {
        makeNumbersThem();
        noneIsThereAheadOfMake();
        tellTakesTheTape();
        tellRefuses();
        tellMayBeAgain();
        startWantsAllThree();
        clientStarts();
        serverStarts();
        Check.finish();
    }

    private static void makeNumbersThem() {
        SecretEnds x = new SecretEnds();
        Check.due("make 0", x.make(true), 0);
        Check.due("make 1", x.make(false), 1);
        Check.due("make 2", x.make(false), 2);
        Check.due("make 3", x.make(true), 3);
        Check.due("make a fifth", x.make(true), NONE);
        Check.due("make a fifth, a client", x.make(false), NONE);
        for (int end = 0; end < 4; end++) {
            int[] want = {0, NONE, NONE, 0, 0, 0, 0, 0, 0, end == 0 || end == 3 ? 1 : 0};
            for (int what = 0; what < want.length; what++) {
                Check.due("state(" + end + ", " + what + ") of one MADE", x.state(end, what), want[what]);
            }
        }
    }

    /** An END that isn't made yet answers nothing, and keeps nothing for when it is. */
    private static void noneIsThereAheadOfMake() {
        Bench b = new Bench();
        for (int made = 0; made < 4; made++) {
            for (int end = made; end < 4; end++) {
                dueNoSuch(b, end);
            }
            Check.due("make", b.x.make(made % 2 == 0), made);
            Check.due("ENDS", b.x.about(1), made + 1);
            int[] want = {0, NONE, NONE, 0, 0, 0, 0, 0, 0, made % 2 == 0 ? 1 : 0};
            for (int what = 0; what < want.length; what++) {
                Check.due("state(" + made + ", " + what + ") of a new one", b.x.state(made, what), want[what]);
            }
            Check.due("start of one that is told nothing", b.x.start(made), false);
        }
    }

    private static void dueNoSuch(Bench b, int end) {
        SecretEnds x = b.x;
        byte[][] told = {Bench.PSK, Bench.NAME, Bench.CLIENT_RANDOM};
        for (int what = 0; what < told.length; what++) {
            b.put(told[what]);
            Check.due("tell(" + end + ", " + what + ")", x.tell(end, what), false);
            Check.due("the tape stays", x.about(0), told[what].length);
        }
        Check.due("start(" + end + ")", x.start(end), false);
        Check.due("say(" + end + ")", x.say(end), NONE);
        Check.due("update(" + end + ", 0)", x.update(end, 0), NONE);
        Check.due("close(" + end + ")", x.close(end), false);
        Check.due("carry(" + end + ", " + end + ")", x.carry(end, end), NONE);
        Check.due("give(" + end + ")", x.give(end), NONE);
        for (int what = 0; what < 10; what++) {
            Check.due("meddle(" + end + ", " + what + ")", x.meddle(end, what), false);
            Check.due("secret(" + end + ", " + what + ", 0)", x.secret(end, what, 0), NONE);
            Check.due("state(" + end + ", " + what + ")", x.state(end, what), NONE);
        }
        Check.due("alter(" + end + ", 0, 1)", x.alter(end, 0, 1), false);
        Check.due("written(" + end + ", 0, 0)", x.written(end, 0, 0), NONE);
        Check.due("given(" + end + ", 0)", x.given(end, 0), NONE);
    }

    private static void tellTakesTheTape() {
        int[][] fits = {{0, 1}, {0, 64}, {1, 1}, {1, 16}, {2, 32}};
        for (int[] fit : fits) {
            Bench b = new Bench();
            b.x.make(false);
            b.put(Bench.row(fit[1], 3));
            Check.due("tell(0, " + fit[0] + ") of " + fit[1], b.x.tell(0, fit[0]), true);
            Check.due("the tape is empty", b.x.about(0), 0);
        }
    }

    private static void tellRefuses() {
        int[][] wrong = {{0, 0}, {0, 65}, {1, 0}, {1, 17}, {2, 0}, {2, 31}, {2, 33}, {3, 16}, {-1, 16}, {Integer.MAX_VALUE, 16}};
        for (int[] bad : wrong) {
            Bench b = new Bench();
            b.x.make(true);
            b.put(Bench.row(bad[1], 3));
            Check.due("tell(0, " + bad[0] + ") of " + bad[1], b.x.tell(0, bad[0]), false);
            Check.due("the tape stays", b.x.about(0), bad[1]);
        }
        Bench b = Bench.told();
        b.put(Bench.row(16, 3));
        for (int end : new int[] {2, -1, 4, Integer.MAX_VALUE, Integer.MIN_VALUE}) {
            Check.due("tell(" + end + ", 1)", b.x.tell(end, 1), false);
        }
        b.x.start(0);
        b.x.start(1);
        Check.due("tell of a started client", b.x.tell(0, 1), false);
        Check.due("tell of a started server", b.x.tell(1, 1), false);
        Check.due("the tape stays", b.x.about(0), 16);
    }

    /** The last that is told counts, and nothing of a longer one stays behind it. */
    private static void tellMayBeAgain() {
        Bench b = new Bench();
        b.x.make(false);
        b.tellAll(0, Bench.row(64, 9), Bench.row(16, 65), Bench.row(32, 77));
        b.tellAll(0, Bench.PSK, Bench.NAME, Bench.CLIENT_RANDOM);
        Check.due("start", b.x.start(0), true);
        dueHello(b, Bench.PSK, Bench.NAME, Bench.CLIENT_RANDOM);
    }

    private static void startWantsAllThree() {
        byte[][] told = {Bench.PSK, Bench.NAME, Bench.CLIENT_RANDOM};
        for (int left = 0; left < 3; left++) {
            Bench b = new Bench();
            b.x.make(left == 1);
            for (int what = 0; what < 3; what++) {
                if (what != left) {
                    b.put(told[what]);
                    b.x.tell(0, what);
                }
            }
            Check.due("start without " + left, b.x.start(0), false);
            Check.due("it is MADE", b.x.state(0, 0), 0);
            b.put(told[left]);
            b.x.tell(0, left);
            Check.due("start with all", b.x.start(0), true);
        }
        Bench b = Bench.told();
        for (int end : new int[] {2, -1, 4, Integer.MAX_VALUE}) {
            Check.due("start(" + end + ")", b.x.start(end), false);
        }
    }

    private static void clientStarts() {
        byte[][] secrets = {Bench.row(1, 200), Bench.PSK, Bench.row(63, 1), Bench.row(64, 1)};
        for (byte[] secret : secrets) {
            for (int n = 1; n <= 16; n += 5) {
                Bench b = new Bench();
                b.x.make(false);
                byte[] name = Bench.row(n, 250);
                b.tellAll(0, secret, name, Bench.SERVER_RANDOM);
                Check.due("start", b.x.start(0), true);
                Check.due("its state", b.x.state(0, 0), 1);
                dueHello(b, secret, name, Bench.SERVER_RANDOM);
                Check.due("start again", b.x.start(0), false);
                Check.due("one record lies there still", b.x.state(0, 3), 1);
                Check.due("no secret to write by", b.x.secret(0, 0, 0), NONE);
                Check.due("none to read by", b.x.secret(0, 1, 0), NONE);
            }
        }
    }

    private static void dueHello(Bench b, byte[] secret, byte[] name, byte[] random) {
        Check.due("records", b.x.state(0, 3), 1);
        byte[] want = Crypto.record(22, Crypto.clientHello(secret, name, random));
        Check.dueBytes("CLIENTHELLO with a NAME of " + name.length, b.writtenRecord(0, 0), want);
    }

    private static void serverStarts() {
        Bench b = Bench.told();
        Check.due("start", b.x.start(1), true);
        Check.due("its state", b.x.state(1, 0), 4);
        Check.due("it writes nothing", b.x.state(1, 3), 0);
        Check.due("start again", b.x.start(1), false);
        Check.due("the other is MADE", b.x.state(0, 0), 0);
    }
}
