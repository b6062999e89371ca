/** Promises 1, 2, 3, 18 and 19: a new object, and the tape. */
public final class TapeTest {
    private static final int NONE = SecretEnds.NONE;

    private TapeTest() {
    }

    public static void main(String[] args) {
        newObject();
        feedPutsBytesBehind();
        feedStopsAtSixHundred();
        endCuts();
        hashIsOfTheTape();
        hashOfEveryLength();
        aboutTells();
        Check.finish();
    }

    private static void newObject() {
        SecretEnds x = new SecretEnds();
        Check.due("NONE", NONE, -1);
        Check.due("a new tape", x.about(0), 0);
        Check.due("ENDS of a new object", x.about(1), 0);
        Check.due("state of no END", x.state(0, 0), NONE);
        Check.due("no END starts", x.start(0), false);
        SecretEnds other = new SecretEnds();
        x.feed(1, 2, 3, 4, 5);
        x.make(true);
        Check.due("another object's tape", other.about(0), 0);
        Check.due("another object's ENDS", other.about(1), 0);
    }

    private static void feedPutsBytesBehind() {
        Bench b = new Bench();
        Check.due("feed", b.x.feed(0x00010203, 0x7f808182, -1, Integer.MIN_VALUE, Integer.MAX_VALUE), 20);
        Check.due("feed again", b.x.feed(1, 2, 3, 4, 5), 40);
        byte[] want = Crypto.bytes(0, 1, 2, 3, 0x7f, 0x80, 0x81, 0x82, 255, 255, 255, 255, 128, 0, 0, 0, 127, 255, 255, 255,
            0, 0, 0, 1, 0, 0, 0, 2, 0, 0, 0, 3, 0, 0, 0, 4, 0, 0, 0, 5);
        dueTape("after two feeds", b.x, want);
        b.x.end(3);
        Check.due("feed behind three", b.x.feed(0x09080706, 0, 0, 0, 0), 23);
        b.x.end(7);
        dueTape("after end and feed", b.x, Crypto.bytes(0, 1, 2, 9, 8, 7, 6));
    }

    private static void feedStopsAtSixHundred() {
        Bench b = new Bench();
        for (int i = 1; i <= 30; i++) {
            Check.due("feed " + i, b.x.feed(i, i, i, i, i), 20 * i);
        }
        Check.due("feed beyond 600", b.x.feed(7, 7, 7, 7, 7), NONE);
        Check.due("600 stay", b.x.about(0), 600);
        Check.due("end(581)", b.x.end(581), 581);
        byte[] before = hashBytes(b.x);
        Check.due("601 would be too many", b.x.feed(7, 7, 7, 7, 7), NONE);
        Check.dueBytes("the tape stays", hashBytes(b.x), before);
        Check.due("end(580)", b.x.end(580), 580);
        Check.due("just 600", b.x.feed(7, 7, 7, 7, 7), 600);
    }

    private static void endCuts() {
        SecretEnds x = new SecretEnds();
        Check.due("end(0) of nothing", x.end(0), 0);
        Check.due("end(1) of nothing", x.end(1), NONE);
        x.feed(0x61626364, 0, 0, 0, 0);
        Check.due("end(21)", x.end(21), NONE);
        Check.due("end(-1)", x.end(-1), NONE);
        Check.due("end(least)", x.end(Integer.MIN_VALUE), NONE);
        Check.due("end(most)", x.end(Integer.MAX_VALUE), NONE);
        Check.due("nothing is done", x.about(0), 20);
        Check.due("end(20)", x.end(20), 20);
        Check.due("end(4)", x.end(4), 4);
        dueTape("the first four", x, Crypto.bytes(0x61, 0x62, 0x63, 0x64));
        Check.due("what was cut is gone", x.end(5), NONE);
        Check.due("end(0)", x.end(0), 0);
        dueTape("nothing", x, Crypto.NOTHING);
    }

    private static void hashIsOfTheTape() {
        SecretEnds x = new SecretEnds();
        Check.due("hash(-1)", x.hash(-1), NONE);
        Check.due("hash(32)", x.hash(32), NONE);
        Check.due("hash(least)", x.hash(Integer.MIN_VALUE), NONE);
        Check.due("hash(most)", x.hash(Integer.MAX_VALUE), NONE);
        dueTape("of nothing", x, Crypto.NOTHING);
        x.feed(0x61626300, 0, 0, 0, 0);
        x.end(3);
        Check.due("hash(0) of abc", x.hash(0), 0xba);
        Check.due("hash(31) of abc", x.hash(31), 0xad);
        Check.due("the tape stays", x.about(0), 3);
    }

    /** Around every edge of the blocks of 64, and all the way to 600. */
    private static void hashOfEveryLength() {
        for (int n = 0; n <= 600; n++) {
            Bench b = new Bench();
            byte[] bytes = Bench.row(n, n);
            b.put(bytes);
            byte[] want = Crypto.sha(bytes);
            for (int i = 0; i < 32; i += 5) {
                Check.due("hash(" + i + ") of " + n + " bytes", b.x.hash(i), want[i] & 255);
            }
        }
    }

    private static void aboutTells() {
        SecretEnds x = new SecretEnds();
        x.feed(0, 0, 0, 0, 0);
        Check.due("about(0)", x.about(0), 20);
        for (int i = 1; i <= 5; i++) {
            x.make(i == 2);
            Check.due("about(1)", x.about(1), Math.min(i, 4));
        }
        Check.due("about(2)", x.about(2), NONE);
        Check.due("about(-1)", x.about(-1), NONE);
        Check.due("about(most)", x.about(Integer.MAX_VALUE), NONE);
    }

    private static byte[] hashBytes(SecretEnds x) {
        byte[] all = new byte[32];
        for (int i = 0; i < 32; i++) {
            all[i] = (byte) x.hash(i);
        }
        return all;
    }

    /** The tape can be seen by its length and hash alone. */
    private static void dueTape(String what, SecretEnds x, byte[] want) {
        Check.due(what + ": bytes of the tape", x.about(0), want.length);
        Check.dueBytes(what + ": hash of the tape", hashBytes(x), Crypto.sha(want));
    }
}
