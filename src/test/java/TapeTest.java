/** Promises 1, 2, 3, 18 and 19: a new object, and the tape. */
public final class TapeTest {
    private static final int NONE = SecretEnds.NONE;

    private TapeTest() {
    }

    public static void main(String[] args) {
        Check.run(TapeTest.class);
    }

    /** A new object whose tape has so many bytes, none of them like its neighbours. */
    private static Bench tape(int n) {
        Bench b = new Bench();
        b.put(Bench.row(n, 5));
        return b;
    }

    @Says(promise = {2, 3, 4, 7, 8, 10, 11, 14, 15, 16, 17, 18, 19}, part = Doc.CONSTANTS, text = "`NONE = -1`: None.")
    private static void noneIsMinusOne() {
        Check.due("NONE", NONE, -1);
        Bench b = Bench.told();
        b.x.make(true);
        b.x.make(true);
        int[] answers = {
            b.x.end(-1), b.x.make(true), b.x.say(0), b.x.update(0, 0), b.x.carry(0, 1), b.x.give(4), b.x.written(0, 0, 0),
            b.x.given(0, 0), b.x.secret(0, 0, 0), b.x.state(0, 1), b.x.state(0, 2), b.x.state(0, 10), b.x.hash(32), b.x.about(2)
        };
        for (int i = 0; i < answers.length; i++) {
            Check.due("refused call " + i, answers[i], -1);
        }
        Check.due("feed beyond 600", tape(600).x.feed(0, 0, 0, 0, 0), -1);
    }

    @Says(promise = 1, text = "No ENDS, ")
    private static void newObjectHasNoEnds() {
        Counted x = new Counted();
        Check.due("ENDS of a new object", x.about(1), 0);
        for (int end = -1; end <= 4; end++) {
            for (int what = 0; what < 10; what++) {
                Check.due("state(" + end + ", " + what + ") of no END", x.state(end, what), NONE);
            }
            Check.due("no END starts", x.start(end), false);
        }
        Check.due("the first is 0", x.make(true), 0);
        Check.due("ENDS of another new object", new Counted().about(1), 0);
    }

    @Says(promise = 1, text = "an empty tape.")
    private static void newObjectHasAnEmptyTape() {
        Counted x = new Counted();
        dueTape("a new tape", x, Crypto.NOTHING);
        Check.due("end(1)", x.end(1), NONE);
        Check.due("end(0)", x.end(0), 0);
        Check.due("feed", x.feed(1, 2, 3, 4, 5), 20);
        Check.due("another object's tape", new Counted().about(0), 0);
    }

    @Says(promise = 2, text = "Twenty bytes come behind the tape, the highest of a first: how many it has.")
    private static void feedPutsBytesBehind() {
        Bench b = new Bench();
        Check.due("feed", b.x.feed(0x00010203, 0x7f808182, -1, Integer.MIN_VALUE, Integer.MAX_VALUE), 20);
        Check.due("feed again", b.x.feed(1, 2, 3, 4, 5), 40);
        byte[] want = Crypto.bytes(0, 1, 2, 3, 0x7f, 0x80, 0x81, 0x82, 255, 255, 255, 255, 128, 0, 0, 0, 127, 255, 255, 255,
            0, 0, 0, 1, 0, 0, 0, 2, 0, 0, 0, 3, 0, 0, 0, 4, 0, 0, 0, 5);
        dueTape("after two feeds", b.x, want);
        b.x.end(3);
        Check.due("feed behind three", b.x.feed(0x09080706, 0, 0, 0, 0), 23);
        b.x.end(7);
        dueTape("after end and feed", b.x, Crypto.bytes(0, 1, 2, 9, 8, 7, 6));
    }

    @Says(promise = 2, text = "NONE, and none come, if there would be more than 600.")
    private static void feedStopsAtSixHundred() {
        Bench b = new Bench();
        for (int i = 1; i <= 30; i++) {
            Check.due("feed " + i, b.x.feed(i, i, i, i, i), 20 * i);
        }
        Check.due("feed beyond 600", b.x.feed(7, 7, 7, 7, 7), NONE);
        for (int n : new int[] {561, 579, 580}) {
            Bench inside = tape(n);
            Check.due("feed behind " + n, inside.x.feed(0x01020304, 5, 6, 7, 0x08090a0b), n + 20);
            byte[] more = Crypto.bytes(1, 2, 3, 4, 0, 0, 0, 5, 0, 0, 0, 6, 0, 0, 0, 7, 8, 9, 10, 11);
            dueTape("feed behind " + n, inside.x, Crypto.join(Bench.row(n, 5), more));
        }
        for (int n : new int[] {581, 582, 590, 599, 600}) {
            new Twins(() -> tape(n)).dueNone("feed behind " + n, x -> x.feed(7, 7, 7, 7, 7));
        }
    }

    @Says(promise = 3, text = "The tape has its first n bytes alone: n.")
    private static void endCuts() {
        for (int n : new int[] {0, 1, 2, 59, 60}) {
            Bench b = tape(60);
            Check.due("end(" + n + ") of 60", b.x.end(n), n);
            dueTape("end(" + n + ") of 60", b.x, Bench.row(n, 5));
            Check.due("what was cut is gone", b.x.end(n + 1), NONE);
        }
        Check.due("end(0) of nothing", new Counted().end(0), 0);
        Check.due("end(600) of 600", tape(600).x.end(600), 600);
        Check.due("end(599) of 600", tape(600).x.end(599), 599);
    }

    @Says(promise = 3, text = "NONE, and nothing is done, if it has not so many, ")
    private static void endRefusesMoreThanThereAre() {
        for (int n : new int[] {0, 1, 20, 599, 600}) {
            Twins twins = new Twins(() -> tape(n));
            for (int more : new int[] {n + 1, n + 2, 601, Integer.MAX_VALUE}) {
                twins.dueNone("end(" + more + ") of " + n, x -> x.end(more));
            }
            twins.dueUnchanged("end(" + n + ") of " + n, x -> x.end(n), n);
        }
    }

    @Says(promise = 3, text = "or n is below 0.")
    private static void endRefusesBelowZero() {
        for (int n : new int[] {0, 20}) {
            Twins twins = new Twins(() -> tape(n));
            for (int below : new int[] {-1, -2, -20, Integer.MIN_VALUE}) {
                twins.dueNone("end(" + below + ") of " + n, x -> x.end(below));
            }
        }
        Bench b = tape(20);
        Check.due("end(0)", b.x.end(0), 0);
        dueTape("end(0)", b.x, Crypto.NOTHING);
    }

    @Says(promise = 18, text = "Byte i of H of the tape (which stays).")
    private static void hashIsOfTheTape() {
        Bench b = new Bench();
        b.put(Crypto.bytes('a', 'b', 'c'));
        Check.due("hash(0) of abc", b.x.hash(0), 0xba);
        Check.due("hash(31) of abc", b.x.hash(31), 0xad);
        for (int n : new int[] {0, 1, 3, 599, 600}) {
            Twins twins = new Twins(() -> tape(n));
            int first = Crypto.sha(Bench.row(n, 5))[0] & 255;
            twins.dueUnchanged("hash(0) of " + n, x -> x.hash(0), first);
        }
    }

    /** Around every edge of the blocks of 64, and all the way to 600. */
    @Says(promise = 18, text = "Byte i of H of the tape (which stays).")
    @Says(promise = 18, part = "I", text = "H is SHA-256")
    private static void hashOfEveryLength() {
        for (int n = 0; n <= 600; n++) {
            Bench b = tape(n);
            byte[] want = Crypto.sha(Bench.row(n, 5));
            for (int i = 0; i < 32; i += 5) {
                Check.due("hash(" + i + ") of " + n + " bytes", b.x.hash(i), want[i] & 255);
            }
        }
    }

    @Says(promise = 18, text = "NONE if i isn't 0 .. 31.")
    private static void hashHasThirtyTwoBytes() {
        for (int n : new int[] {0, 40, 600}) {
            Twins twins = new Twins(() -> tape(n));
            byte[] want = Crypto.sha(Bench.row(n, 5));
            for (int i : new int[] {0, 1, 30, 31}) {
                Check.due("hash(" + i + ")", tape(n).x.hash(i), want[i] & 255);
            }
            for (int i : new int[] {-1, -2, 32, 33, Integer.MAX_VALUE, Integer.MIN_VALUE}) {
                twins.dueNone("hash(" + i + ") of " + n, x -> x.hash(i));
            }
        }
    }

    @Says(promise = 19, text = "0 bytes of the tape, ")
    private static void aboutTellsOfTheTape() {
        for (int n : new int[] {0, 1, 19, 20, 21, 599, 600}) {
            new Twins(() -> tape(n)).dueUnchanged("about(0) of " + n, x -> x.about(0), n);
        }
    }

    @Says(promise = 19, text = "1 ENDS.")
    private static void aboutTellsOfEnds() {
        Counted x = new Counted();
        Check.due("about(1)", x.about(1), 0);
        for (int i = 1; i <= 5; i++) {
            x.make(i == 2);
            Check.due("about(1) behind make " + i, x.about(1), Math.min(i, 4));
        }
    }

    @Says(promise = 19, text = "NONE for others.")
    private static void aboutRefusesOthers() {
        Twins twins = new Twins(Bench::connected);
        for (int what : new int[] {-1, -2, 2, 3, Integer.MAX_VALUE, Integer.MIN_VALUE}) {
            twins.dueNone("about(" + what + ")", x -> x.about(what));
        }
        twins.dueUnchanged("about(0)", x -> x.about(0), 0);
        twins.dueUnchanged("about(1)", x -> x.about(1), 2);
    }

    /** The tape can be seen by its length and hash alone. */
    private static void dueTape(String what, Counted x, byte[] want) {
        Check.due(what + ": bytes of the tape", x.about(0), want.length);
        byte[] hash = Crypto.sha(want);
        for (int i = 0; i < 32; i++) {
            Check.due(what + ": hash(" + i + ") of the tape", x.hash(i), hash[i] & 255);
        }
    }
}
