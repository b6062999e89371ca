/** Promises 10 to 14: the carrier, and what lies there. */
public final class CarrierTest {
    private static final int NONE = SecretEnds.NONE;
    private static final int[] NO_ENDS = {2, 3, 4, -1, Integer.MAX_VALUE, Integer.MIN_VALUE};

    private CarrierTest() {
    }

    public static void main(String[] args) {
        carryShakesHands();
        carryTakesTheFirst();
        carryRefuses();
        carryToItself();
        carryToDeafEnds();
        giveReadsTheTape();
        giveRefuses();
        meddleLoses();
        meddleDoubles();
        meddleSwaps();
        meddleRefuses();
        alterChangesAByte();
        alterRefuses();
        writtenLooks();
        Check.finish();
    }

    /** All that goes to and fro in a handshake, byte by byte. */
    private static void carryShakesHands() {
        Bench b = Bench.answered();
        byte[] log = Crypto.join(Crypto.clientHello(Bench.PSK, Bench.NAME, Bench.CLIENT_RANDOM),
            Crypto.serverHello(Bench.SERVER_RANDOM));
        byte[] hand = Crypto.hand(Bench.PSK);
        byte[] client = Crypto.expand(hand, "c hs traffic", Crypto.sha(log));
        byte[] server = Crypto.expand(hand, "s hs traffic", Crypto.sha(log));
        Check.due("CLIENTHELLO is gone", b.x.state(0, 3), 0);
        Check.due("three lie there", b.x.state(1, 3), 3);
        Check.dueBytes("SERVERHELLO", b.writtenRecord(1, 0), Crypto.record(22, Crypto.serverHello(Bench.SERVER_RANDOM)));
        Check.dueBytes("EXTENSIONS", b.opened(1, 1, server, 0), Crypto.join(Crypto.extensions(), Crypto.bytes(22)));
        log = Crypto.join(log, Crypto.extensions());
        byte[] finished = Crypto.finished(server, log);
        Check.dueBytes("the server's FINISHED", b.opened(1, 2, server, 1), Crypto.join(finished, Crypto.bytes(22)));
        Check.due("SERVERHELLO is read", b.x.carry(1, 0), 2);
        Check.due("EXTENSIONS are read", b.x.carry(1, 0), 3);
        Check.due("FINISHED is read", b.x.carry(1, 0), 6);
        byte[] own = Crypto.finished(client, Crypto.join(log, finished));
        Check.due("the client wrote one", b.x.state(0, 3), 1);
        Check.dueBytes("the client's FINISHED", b.writtenRecord(0, 0),
            Crypto.seal(client, 0, Crypto.join(own, Crypto.bytes(22))));
        Check.due("the server reads it", b.x.carry(0, 1), 6);
        Check.due("nothing is left", b.x.carry(0, 1), NONE);
        Check.due("nothing is left", b.x.carry(1, 0), NONE);
    }

    private static void carryTakesTheFirst() {
        Bench b = Bench.connected();
        for (int i = 0; i < 5; i++) {
            b.sayBytes(0, Crypto.bytes(i));
        }
        for (int i = 0; i < 5; i++) {
            Check.due("records", b.x.state(0, 3), 5 - i);
            Check.due("carry", b.x.carry(0, 1), 6);
            Check.due("given", b.x.given(1, i), i);
        }
        Check.due("none", b.x.carry(0, 1), NONE);
    }

    private static void carryRefuses() {
        Bench b = Bench.started();
        for (int none : NO_ENDS) {
            Check.due("carry(" + none + ", 1)", b.x.carry(none, 1), NONE);
            Check.due("carry(0, " + none + ")", b.x.carry(0, none), NONE);
        }
        Check.due("the record lies there", b.x.state(0, 3), 1);
        Check.due("from one that wrote nothing", b.x.carry(1, 0), NONE);
        Check.due("nothing was read", b.x.state(1, 0), 4);
    }

    private static void carryToItself() {
        Bench b = Bench.started();
        Check.due("a client reads its own CLIENTHELLO", b.x.carry(0, 0), 7);
        b.dueAlert("its own CLIENTHELLO", 0, 10);
        Check.due("the alert lies there alone", b.x.state(0, 3), 1);
        Check.dueBytes("ALERT 2, 10", b.writtenRecord(0, 0), Crypto.record(21, Crypto.bytes(2, 10)));
        Check.due("one FAILED reads nothing", b.x.carry(0, 0), 7);
        Check.due("nothing lies there", b.x.state(0, 3), 0);
        Bench c = Bench.connected();
        for (int i = 0; i < 32; i++) {
            c.sayBytes(0, Crypto.bytes(i));
        }
        byte[] secret = c.secretBytes(0, 0);
        Check.due("of 32 the first comes to itself", c.x.carry(0, 0), 7);
        c.dueAlert("its own words", 0, 20);
        Check.due("there was room for an alert", c.x.state(0, 3), 32);
        Check.dueBytes("the alert", c.writtenRecord(0, 31), Crypto.seal(secret, 32, Crypto.bytes(2, 20, 21)));
    }

    private static void carryToDeafEnds() {
        Bench b = Bench.told();
        b.x.start(0);
        Check.due("one MADE reads nothing", b.x.carry(0, 1), 0);
        Check.due("the record is gone", b.x.state(0, 3), 0);
        Bench c = Bench.connected();
        c.x.close(0);
        c.x.meddle(0, 1);
        c.x.carry(0, 1);
        Check.due("behind the close nothing is read", c.x.carry(0, 1), 6);
        Check.due("no alert", c.x.state(1, 1), NONE);
        Check.due("the record is gone", c.x.state(0, 3), 0);
        Check.due("the number stays", c.x.state(1, 6), 1);
    }

    private static void giveReadsTheTape() {
        Bench b = Bench.told();
        b.x.start(1);
        byte[] hello = Crypto.clientHello(Bench.PSK, Bench.NAME, Bench.row(32, 50));
        b.put(Crypto.record(22, hello));
        Check.due("give to one MADE", b.x.give(0), 0);
        Check.due("the tape is empty", b.x.about(0), 0);
        Check.due("give CLIENTHELLO", b.giveBytes(1, Crypto.record(22, hello)), 5);
        Check.due("the tape is empty", b.x.about(0), 0);
        Check.due("three are written", b.x.state(1, 3), 3);
    }

    private static void giveRefuses() {
        Bench b = Bench.started();
        b.put(Crypto.bytes(1, 2, 3));
        for (int none : NO_ENDS) {
            Check.due("give(" + none + ")", b.x.give(none), NONE);
        }
        Check.due("the tape stays", b.x.about(0), 3);
        Check.due("give fewer than 5 bytes", b.x.give(1), 7);
        b.dueAlert("fewer than 5 bytes", 1, 50);
    }

    private static Bench three() {
        Bench b = Bench.connected();
        for (int i = 0; i < 3; i++) {
            b.sayBytes(0, Bench.row(i + 1, 7 * i));
        }
        return b;
    }

    /** Records are told apart by their lengths: 23, 24 and 25 bytes. */
    private static void dueLengths(String what, Bench b, int... lengths) {
        Check.due(what + ": records", b.x.state(0, 3), lengths.length);
        for (int k = 0; k < lengths.length; k++) {
            Check.due(what + ": record " + k, b.writtenRecord(0, k).length, lengths[k]);
        }
    }

    private static void meddleLoses() {
        Bench b = three();
        byte[] second = b.writtenRecord(0, 1);
        Check.due("meddle 0", b.x.meddle(0, 0), true);
        dueLengths("the first is lost", b, 24, 25);
        Check.dueBytes("the second is first", b.writtenRecord(0, 0), second);
        Check.due("its reader misses one", b.x.carry(0, 1), 7);
        b.dueAlert("a lost record", 1, 20);
        Check.due("meddle 0", b.x.meddle(0, 0), true);
        Check.due("none is left", b.x.meddle(0, 0), false);
    }

    private static void meddleDoubles() {
        Bench b = three();
        byte[] first = b.writtenRecord(0, 0);
        Check.due("meddle 1", b.x.meddle(0, 1), true);
        dueLengths("the first lies there twice", b, 23, 23, 24, 25);
        Check.dueBytes("one", b.writtenRecord(0, 0), first);
        Check.dueBytes("behind the other", b.writtenRecord(0, 1), first);
        Check.due("alter the first", b.x.alter(0, 9, 1), true);
        Check.dueBytes("the second is a record of its own", b.writtenRecord(0, 1), first);
        Check.due("the number of the next stays", b.x.state(0, 5), 3);
        Check.due("lose the first", b.x.meddle(0, 0), true);
        Check.due("the other is read", b.x.carry(0, 1), 6);
        for (int n = 3; n <= 32; n++) {
            Check.due("meddle 1 at " + (n - 1), b.x.meddle(0, 1), true);
            Check.due("records", b.x.state(0, 3), n);
        }
        Check.due("meddle 1 at 32", b.x.meddle(0, 1), false);
        Check.due("records", b.x.state(0, 3), 32);
        Check.due("the last", b.x.written(0, 31, 4), 20);
        Check.due("the first of many", b.x.written(0, 30, 4), 19);
    }

    private static void meddleSwaps() {
        Bench b = three();
        Check.due("meddle 2", b.x.meddle(0, 2), true);
        dueLengths("the first two change places", b, 24, 23, 25);
        Check.due("meddle 2 again", b.x.meddle(0, 2), true);
        dueLengths("and back", b, 23, 24, 25);
        b.x.meddle(0, 0);
        b.x.meddle(0, 0);
        Check.due("meddle 2 of one", b.x.meddle(0, 2), false);
        dueLengths("nothing is done", b, 25);
    }

    private static void meddleRefuses() {
        Bench b = three();
        for (int what : new int[] {3, -1, Integer.MAX_VALUE}) {
            Check.due("meddle(0, " + what + ")", b.x.meddle(0, what), false);
        }
        for (int what = 0; what < 3; what++) {
            for (int none : NO_ENDS) {
                Check.due("meddle(" + none + ", " + what + ")", b.x.meddle(none, what), false);
            }
            Check.due("of nothing: meddle(1, " + what + ")", b.x.meddle(1, what), false);
        }
        dueLengths("nothing is done", b, 23, 24, 25);
    }

    private static void alterChangesAByte() {
        Bench b = three();
        byte[] record = b.writtenRecord(0, 0);
        byte[] second = b.writtenRecord(0, 1);
        Check.due("alter by 0", b.x.alter(0, 22, 0), true);
        Check.dueBytes("nothing is other", b.writtenRecord(0, 0), record);
        Check.due("alter the last by 255", b.x.alter(0, 22, 255), true);
        Check.due("alter the first by 1", b.x.alter(0, 0, 1), true);
        record[22] ^= (byte) 255;
        record[0] ^= 1;
        Check.dueBytes("the first record", b.writtenRecord(0, 0), record);
        Check.dueBytes("the second record", b.writtenRecord(0, 1), second);
        b.x.alter(0, 0, 1);
        b.x.alter(0, 22, 255);
        Check.due("twice is as never", b.x.carry(0, 1), 6);
        Check.due("alter the next", b.x.alter(0, 6, 128), true);
        Check.due("the seal is not right", b.x.carry(0, 1), 7);
        b.dueAlert("an altered record", 1, 20);
    }

    private static void alterRefuses() {
        Bench b = three();
        byte[] record = b.writtenRecord(0, 0);
        for (int i : new int[] {-1, 23, 24, 421, 422, Integer.MAX_VALUE, Integer.MIN_VALUE}) {
            Check.due("alter(0, " + i + ", 1)", b.x.alter(0, i, 1), false);
        }
        for (int mask : new int[] {-1, 256, Integer.MAX_VALUE, Integer.MIN_VALUE}) {
            Check.due("alter(0, 0, " + mask + ")", b.x.alter(0, 0, mask), false);
        }
        for (int none : NO_ENDS) {
            Check.due("alter(" + none + ", 0, 1)", b.x.alter(none, 0, 1), false);
        }
        Check.due("of nothing", b.x.alter(1, 0, 1), false);
        Check.dueBytes("nothing is changed", b.writtenRecord(0, 0), record);
    }

    private static void writtenLooks() {
        Bench b = three();
        Check.due("the type", b.x.written(0, 0, 0), 23);
        Check.due("the length of the last", b.x.written(0, 2, 4), 20);
        Check.due("the last byte is there", b.x.written(0, 2, 24) != NONE, true);
        Check.due("none behind it", b.x.written(0, 2, 25), NONE);
        Check.due("none ahead", b.x.written(0, 2, -1), NONE);
        for (int k : new int[] {3, -1, 31, 32, Integer.MAX_VALUE, Integer.MIN_VALUE}) {
            Check.due("written(0, " + k + ", 0)", b.x.written(0, k, 0), NONE);
        }
        for (int none : NO_ENDS) {
            Check.due("written(" + none + ", 0, 0)", b.x.written(none, 0, 0), NONE);
        }
        Check.due("one that lies there no more", b.x.written(1, 0, 0), NONE);
    }
}
