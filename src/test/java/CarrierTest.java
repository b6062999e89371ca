/** Promises 10 to 14: the carrier, and what lies there. */
public final class CarrierTest {
    private static final int NONE = SecretEnds.NONE;

    private CarrierTest() {
    }

    public static void main(String[] args) {
        Check.run(CarrierTest.class);
    }

    /** All that goes to and fro in a handshake, byte by byte. */
    @Says(promise = 10, text = "and is read: the state of that.")
    @Says(promise = {10, 14}, part = "II",
        text = "SERVERHELLO (2): 3, 3; RANDOM; 0; 0x13, 3; 0; 0, 12; 0, 43, 0, 2, 3, 4; 0, 41, 0, 2, 0, 0.")
    @Says(promise = {10, 14}, part = "II", text = "EXTENSIONS (8): 0, 0.")
    @Says(promise = {10, 14}, part = "II", text = "FINISHED (20): HM(finished of the writer's hs secret, T of all ahead).")
    @Says(promise = {10, 14}, part = "II", text = "(Messages behind SERVERHELLO are SEALED by the hs secrets, ")
    private static void carryShakesHands() {
        Bench b = Bench.answered();
        byte[] log = Crypto.join(Crypto.clientHello(Bench.PSK, Bench.NAME, Bench.CLIENT_RANDOM),
            Crypto.serverHello(Bench.SERVER_RANDOM));
        byte[] hand = Crypto.hand(Bench.PSK);
        byte[] client = Crypto.expand(hand, "c hs traffic", Crypto.sha(log));
        byte[] server = Crypto.expand(hand, "s hs traffic", Crypto.sha(log));
        Check.due("CLIENTHELLO is gone", b.x.state(0, 3), 0);
        Check.due("three lie there", b.x.state(1, 3), 3);
        Check.dueBytes("SERVERHELLO", b.writtenRecord(1, 0), Crypto.record(22, Crypto.serverHello(Bench.SERVER_RANDOM)));
        Check.dueBytes("EXTENSIONS", b.opened(1, 1, server, 0), Crypto.join(Crypto.extensions(), Crypto.bytes(22)));
        log = Crypto.join(log, Crypto.extensions());
        byte[] finished = Crypto.finished(server, log);
        Check.dueBytes("the server's FINISHED", b.opened(1, 2, server, 1), Crypto.join(finished, Crypto.bytes(22)));
        Check.due("SERVERHELLO is read", b.x.carry(1, 0), 2);
        Check.due("EXTENSIONS are read", b.x.carry(1, 0), 3);
        Check.due("FINISHED is read", b.x.carry(1, 0), 6);
        byte[] own = Crypto.finished(client, Crypto.join(log, finished));
        Check.due("the client wrote one", b.x.state(0, 3), 1);
        Check.dueBytes("the client's FINISHED", b.writtenRecord(0, 0),
            Crypto.seal(client, 0, Crypto.join(own, Crypto.bytes(22))));
        Check.due("the server reads it", b.x.carry(0, 1), 6);
        Check.due("nothing is left", b.x.carry(0, 1), NONE);
        Check.due("nothing is left", b.x.carry(1, 0), NONE);
    }

    @Says(promise = 10, text = "The first record that an END has written and that lies there comes to another one")
    private static void carryTakesTheFirst() {
        Bench b = Bench.connected();
        for (int i = 0; i < 5; i++) {
            b.sayBytes(0, Crypto.bytes(i));
        }
        for (int i = 0; i < 5; i++) {
            Check.due("records", b.x.state(0, 3), 5 - i);
            Check.due("carry", b.x.carry(0, 1), 6);
            Check.due("given", b.x.given(1, i), i);
        }
        Check.due("none", b.x.carry(0, 1), NONE);
    }

    @Says(promise = 10, text = "(or itself)")
    private static void carryToItself() {
        Bench b = Bench.started();
        Check.due("a client reads its own CLIENTHELLO", b.x.carry(0, 0), 7);
        b.dueAlert("its own CLIENTHELLO", 0, 10);
        Check.due("the alert lies there alone", b.x.state(0, 3), 1);
        Check.dueBytes("ALERT 2, 10", b.writtenRecord(0, 0), Crypto.record(21, Crypto.bytes(2, 10)));
        Check.due("one FAILED reads nothing", b.x.carry(0, 0), 7);
        Check.due("nothing lies there", b.x.state(0, 3), 0);
        Bench c = Bench.connected();
        for (int i = 0; i < 32; i++) {
            c.sayBytes(0, Crypto.bytes(i));
        }
        byte[] secret = c.secretBytes(0, 0);
        Check.due("of 32 the first comes to itself", c.x.carry(0, 0), 7);
        c.dueAlert("its own words", 0, 20);
        Check.due("there was room for an alert", c.x.state(0, 3), 32);
        Check.dueBytes("the alert", c.writtenRecord(0, 31), Crypto.seal(secret, 32, Crypto.bytes(2, 20, 21)));
    }

    /** What comes to its own writer is read as any other's: by the keys that it reads by, if it has some. */
    @Says(promise = 10, text = "(or itself)")
    private static void carryToItselfInEveryState() {
        int[][] places = {{1, 0, 10}, {5, 1, 10}, {7, 0, 50}, {7, 1, 50}};
        for (int[] place : places) {
            int end = place[1];
            Bench b = Bench.in(place[0], end);
            Check.due("its own record in state " + place[0], b.x.carry(end, end), 7);
            b.dueAlert("its own record in state " + place[0], end, place[2]);
        }
        for (int end = 0; end < 2; end++) {
            Bench b = Bench.connected();
            Check.due("close", b.x.close(end), true);
            Check.due("its own close", b.x.carry(end, end), 7);
            b.dueAlert("its own close", end, 20);
            Check.due("the other side has not closed", b.x.state(end, 8), 0);
            Check.due("one that has closed writes no alert", b.x.state(end, 3), 0);
        }
    }

    @Says(promise = 10, part = "III",
        text = "an END that is MADE, FAILED, or whose other side has closed: nothing is read.")
    private static void carryToDeafEnds() {
        Bench b = Bench.told();
        b.x.start(0);
        Check.due("one MADE reads nothing", b.x.carry(0, 1), 0);
        Check.due("the record is gone", b.x.state(0, 3), 0);
        Bench c = Bench.connected();
        c.x.close(0);
        c.x.meddle(0, 1);
        c.x.carry(0, 1);
        Check.due("behind the close nothing is read", c.x.carry(0, 1), 6);
        Check.due("no alert", c.x.state(1, 1), NONE);
        Check.due("the record is gone", c.x.state(0, 3), 0);
        Check.due("the number stays", c.x.state(1, 6), 1);
    }

    @Says(promise = 11, text = "The tape (empty then) comes to an END, and is read: its state.")
    private static void giveReadsTheTape() {
        Bench b = Bench.told();
        b.x.start(1);
        byte[] hello = Crypto.clientHello(Bench.PSK, Bench.NAME, Bench.row(32, 50));
        b.put(Crypto.record(22, hello));
        Check.due("give to one MADE", b.x.give(0), 0);
        Check.due("the tape is empty", b.x.about(0), 0);
        Check.due("give CLIENTHELLO", b.giveBytes(1, Crypto.record(22, hello)), 5);
        Check.due("the tape is empty", b.x.about(0), 0);
        Check.due("three are written", b.x.state(1, 3), 3);
    }

    private static Bench three() {
        Bench b = Bench.connected();
        for (int i = 0; i < 3; i++) {
            b.sayBytes(0, Bench.row(i + 1, 7 * i));
        }
        return b;
    }

    /** Records are told apart by their lengths: 23, 24 and 25 bytes. */
    private static void dueLengths(String what, Bench b, int... lengths) {
        Check.due(what + ": records", b.x.state(0, 3), lengths.length);
        for (int k = 0; k < lengths.length; k++) {
            Check.due(what + ": record " + k, b.writtenRecord(0, k).length, lengths[k]);
        }
    }

    @Says(promise = 12, text = "Of what an END has written and lies there: what 0 the first record is lost, ")
    private static void meddleLoses() {
        Bench b = three();
        byte[] second = b.writtenRecord(0, 1);
        Check.due("meddle 0", b.x.meddle(0, 0), true);
        dueLengths("the first is lost", b, 24, 25);
        Check.dueBytes("the second is first", b.writtenRecord(0, 0), second);
        Check.due("its reader misses one", b.x.carry(0, 1), 7);
        b.dueAlert("a lost record", 1, 20);
        Check.due("meddle 0", b.x.meddle(0, 0), true);
        Check.due("none is left", b.x.meddle(0, 0), false);
    }

    @Says(promise = 12, text = "1 it lies there twice (one behind the other), ")
    private static void meddleDoubles() {
        Bench b = three();
        byte[] first = b.writtenRecord(0, 0);
        Check.due("meddle 1", b.x.meddle(0, 1), true);
        dueLengths("the first lies there twice", b, 23, 23, 24, 25);
        Check.dueBytes("one", b.writtenRecord(0, 0), first);
        Check.dueBytes("behind the other", b.writtenRecord(0, 1), first);
        Check.due("alter the first", b.x.alter(0, 9, 1), true);
        Check.dueBytes("the second is a record of its own", b.writtenRecord(0, 1), first);
        Check.due("the number of the next stays", b.x.state(0, 5), 3);
        Check.due("lose the first", b.x.meddle(0, 0), true);
        Check.due("the other is read", b.x.carry(0, 1), 6);
        for (int n = 3; n <= 32; n++) {
            Check.due("meddle 1 at " + (n - 1), b.x.meddle(0, 1), true);
            Check.due("records", b.x.state(0, 3), n);
        }
        Check.due("meddle 1 at 32", b.x.meddle(0, 1), false);
        Check.due("records", b.x.state(0, 3), 32);
        Check.due("the last", b.x.written(0, 31, 4), 20);
        Check.due("the first of many", b.x.written(0, 30, 4), 19);
    }

    @Says(promise = 12, text = "2 the first two change places: true.")
    private static void meddleSwaps() {
        Bench b = three();
        Check.due("meddle 2", b.x.meddle(0, 2), true);
        dueLengths("the first two change places", b, 24, 23, 25);
        Check.due("meddle 2 again", b.x.meddle(0, 2), true);
        dueLengths("and back", b, 23, 24, 25);
        b.x.meddle(0, 0);
        b.x.meddle(0, 0);
        Check.due("meddle 2 of one", b.x.meddle(0, 2), false);
        dueLengths("nothing is done", b, 25);
    }

    @Says(promise = 13, text = "Byte i of the first record that lies there xor a mask")
    private static void alterChangesAByte() {
        Bench b = three();
        byte[] record = b.writtenRecord(0, 0);
        byte[] second = b.writtenRecord(0, 1);
        Check.due("alter by 0", b.x.alter(0, 22, 0), true);
        Check.dueBytes("nothing is other", b.writtenRecord(0, 0), record);
        Check.due("alter the last by 255", b.x.alter(0, 22, 255), true);
        Check.due("alter the first by 1", b.x.alter(0, 0, 1), true);
        record[22] ^= (byte) 255;
        record[0] ^= 1;
        Check.dueBytes("the first record", b.writtenRecord(0, 0), record);
        Check.dueBytes("the second record", b.writtenRecord(0, 1), second);
        b.x.alter(0, 0, 1);
        b.x.alter(0, 22, 255);
        Check.due("twice is as never", b.x.carry(0, 1), 6);
        Check.due("alter the next", b.x.alter(0, 6, 128), true);
        Check.due("the seal is not right", b.x.carry(0, 1), 7);
        b.dueAlert("an altered record", 1, 20);
    }

    /** So many records of END 0 lie there, told apart by their lengths: 23, 24, .. bytes. */
    private static Bench lying(int records) {
        Bench b = Bench.connected();
        for (int i = 0; i < records; i++) {
            b.put(Bench.row(i + 1, 7 * i));
            Check.due("say", b.x.say(0), i + 1);
        }
        return b;
    }

    @Says(promise = 10, text = "NONE: no such ENDS, ")
    private static void carryRefusesNoSuchEnds() {
        Twins hello = new Twins(Bench::started);
        Twins talk = new Twins(() -> lying(2));
        for (int none : Bench.NO_ENDS) {
            hello.dueNone("carry(" + none + ", 1)", x -> x.carry(none, 1));
            hello.dueNone("carry(0, " + none + ")", x -> x.carry(0, none));
            talk.dueNone("carry(" + none + ", 1)", x -> x.carry(none, 1));
            talk.dueNone("carry(0, " + none + ")", x -> x.carry(0, none));
            talk.dueNone("carry(" + none + ", " + none + ")", x -> x.carry(none, none));
        }
    }

    @Says(promise = 10, text = "or there is none.")
    private static void carryWantsARecord() {
        Bench b = lying(2);
        Check.due("of two", b.x.carry(0, 1), 6);
        Check.due("of one", b.x.carry(0, 1), 6);
        Check.due("of none", b.x.carry(0, 1), NONE);
        for (int[] place : Bench.PLACES) {
            int end = place[1];
            Twins twins = new Twins(() -> emptied(place[0], end));
            twins.dueNone("from one in state " + place[0], x -> x.carry(end, 1 - end));
            twins.dueNone("to itself in state " + place[0], x -> x.carry(end, end));
        }
    }

    /** This END is in this state, and nothing that it has written lies there. */
    private static Bench emptied(int state, int end) {
        Bench b = Bench.in(state, end);
        for (int n = b.x.state(end, 3); n > 0; n--) {
            Check.due("lose", b.x.meddle(end, 0), true);
        }
        return b;
    }

    /** The state is the reader's, whatever the writer's is: one FAILED has an alert to be carried. */
    @Says(promise = 10, text = "and is read: the state of that.")
    private static void carryFromEveryState() {
        for (int end = 0; end < 2; end++) {
            Bench b = Bench.in(7, end);
            Check.due("the alert is carried to the other", b.x.carry(end, 1 - end), 7);
            Check.due("it FAILED by it", b.x.state(1 - end, 2), 50);
            Bench c = Bench.in(7, end);
            Check.due("the other says", c.sayBytes(1 - end, Crypto.bytes(1)), 1);
            c.put(Bench.row(7, 1));
            Check.due("to one FAILED", c.x.carry(1 - end, end), 7);
            Check.due("the record is gone", c.x.state(1 - end, 3), 0);
            Check.due("the tape stays", c.x.about(0), 7);
        }
    }

    @Says(promise = 11, text = "The tape (empty then) comes to an END, and is read: its state.")
    private static void giveTapesOfEveryLength() {
        for (int n : new int[] {1, 2, 577, 578}) {
            Bench b = Bench.connected();
            byte[] inner = Crypto.join(Bench.row(n, 9), Crypto.bytes(23));
            byte[] record = Crypto.seal(b.secretBytes(1, 1), 0, inner);
            Check.due("a record of " + record.length, b.giveBytes(1, record), 6);
            Check.due("the tape is empty", b.x.about(0), 0);
            Check.due("all are given", b.x.state(1, 4), n);
            Check.due("the last is", b.x.given(1, n - 1), 8 + n & 255);
        }
        for (int n : new int[] {0, 1, 599, 600}) {
            Bench b = Bench.connected();
            Check.due(n + " bytes that are no record", b.giveBytes(1, new byte[n]), 7);
            Check.due("the tape is empty", b.x.about(0), 0);
            b.dueAlert(n + " bytes", 1, 50);
        }
    }

    @Says(promise = 11, text = "NONE: no such END.")
    private static void giveRefusesNoSuchEnd() {
        for (int n : new int[] {0, 3, 600}) {
            Twins twins = new Twins(() -> {
                Bench b = Bench.started();
                b.put(Bench.row(n, 22));
                return b;
            });
            for (int none : Bench.NO_ENDS) {
                twins.dueNone("give(" + none + ") of " + n, x -> x.give(none));
            }
        }
    }

    @Says(promise = 12, text = "False: no such END, ")
    private static void meddleRefusesNoSuchEnd() {
        Twins twins = new Twins(() -> lying(3));
        for (int what = 0; what < 3; what++) {
            int how = what;
            for (int none : Bench.NO_ENDS) {
                twins.dueFalse("meddle(" + none + ", " + how + ")", x -> x.meddle(none, how));
            }
        }
    }

    @Says(promise = 12, text = "False: no such END, what;")
    private static void meddleRefusesNoSuchWhat() {
        Twins twins = new Twins(() -> lying(3));
        for (int what : new int[] {-1, -2, 3, 4, Integer.MAX_VALUE, Integer.MIN_VALUE}) {
            twins.dueFalse("meddle(0, " + what + ")", x -> x.meddle(0, what));
        }
    }

    @Says(promise = 12, text = "there are not as many;")
    private static void meddleWantsAsMany() {
        int[] least = {1, 1, 2};
        for (int what = 0; what < 3; what++) {
            int how = what;
            for (int n = 0; n < 4; n++) {
                int records = n;
                if (records >= least[what]) {
                    Check.due("meddle(0, " + how + ") of " + records, lying(records).x.meddle(0, how), true);
                } else {
                    Twins twins = new Twins(() -> lying(records));
                    twins.dueFalse("meddle(0, " + how + ") of " + records, x -> x.meddle(0, how));
                }
            }
        }
        dueLengths("one is lost", meddled(1, 0));
        dueLengths("one is doubled", meddled(1, 1), 23, 23);
        dueLengths("two change places", meddled(2, 2), 24, 23);
    }

    private static Bench meddled(int records, int what) {
        Bench b = lying(records);
        Check.due("meddle(0, " + what + ") of " + records, b.x.meddle(0, what), true);
        return b;
    }

    @Says(promise = 12, text = "(1) there are 32.")
    private static void meddleDoublesUpToThirtyTwo() {
        for (int records : new int[] {30, 31}) {
            Bench b = Bench.said(0, records);
            Check.due("double at " + records, b.x.meddle(0, 1), true);
            Check.due("records", b.x.state(0, 3), records + 1);
            byte[] first = b.writtenRecord(0, 0);
            Check.dueBytes("the second is as the first", b.writtenRecord(0, 1), first);
            Check.due("the last", b.x.written(0, records, 4), 18);
            Check.due("none behind it", b.x.written(0, records + 1, 4), NONE);
        }
        Twins full = new Twins(() -> Bench.said(0, 32));
        full.dueFalse("double at 32", x -> x.meddle(0, 1));
        Check.due("lose at 32", Bench.said(0, 32).x.meddle(0, 0), true);
        Check.due("swap at 32", Bench.said(0, 32).x.meddle(0, 2), true);
    }

    /** Whatever the END's state is: the records lie there, and the END has no part in it. */
    @Says(promise = 12, text = "Of what an END has written and lies there:")
    private static void meddleInEveryState() {
        for (int[] place : new int[][] {{1, 0}, {5, 1}, {7, 0}, {7, 1}}) {
            int end = place[1];
            Bench b = Bench.in(place[0], end);
            int records = b.x.state(end, 3);
            Check.due("double in state " + place[0], b.x.meddle(end, 1), true);
            Check.due("swap in state " + place[0], b.x.meddle(end, 2), true);
            Check.due("records", b.x.state(end, 3), records + 1);
            Check.due("lose in state " + place[0], b.x.meddle(end, 0), true);
            Check.due("records", b.x.state(end, 3), records);
            Check.due("its state stays", b.x.state(end, 0), place[0]);
        }
    }

    @Says(promise = 13, text = "a mask (0 .. 255): true.")
    private static void alterTakesMasksOfAByte() {
        byte[] record = lying(2).writtenRecord(0, 0);
        for (int mask : new int[] {0, 1, 254, 255}) {
            Bench b = lying(2);
            Check.due("alter(0, 7, " + mask + ")", b.x.alter(0, 7, mask), true);
            Check.due("byte 7", b.x.written(0, 0, 7), record[7] & 255 ^ mask);
            Check.due("byte 6", b.x.written(0, 0, 6), record[6] & 255);
            Check.due("byte 8", b.x.written(0, 0, 8), record[8] & 255);
        }
        Twins twins = new Twins(() -> lying(2));
        twins.dueUnchanged("by 0 nothing is other", x -> x.alter(0, 7, 0) ? 1 : 0, 1);
        for (int mask : new int[] {-1, -2, -256, 256, 257, 511, Integer.MAX_VALUE, Integer.MIN_VALUE}) {
            twins.dueFalse("alter(0, 7, " + mask + ")", x -> x.alter(0, 7, mask));
        }
    }

    @Says(promise = 13, text = "False, changing nothing, for others.")
    private static void alterRefusesOthers() {
        Twins twins = new Twins(() -> lying(2));
        // The second record has 24 bytes, the first 23: there is no byte 23 of the first.
        for (int i : new int[] {-1, -2, 23, 24, 421, 422, Integer.MAX_VALUE, Integer.MIN_VALUE}) {
            twins.dueFalse("alter(0, " + i + ", 1)", x -> x.alter(0, i, 1));
        }
        for (int none : Bench.NO_ENDS) {
            twins.dueFalse("alter(" + none + ", 0, 1)", x -> x.alter(none, 0, 1));
        }
        twins.dueFalse("of nothing", x -> x.alter(1, 0, 1));
        byte[] record = lying(2).writtenRecord(0, 0);
        for (int i : new int[] {0, 1, 21, 22}) {
            Bench b = lying(2);
            Check.due("alter(0, " + i + ", 255)", b.x.alter(0, i, 255), true);
            Check.due("byte " + i, b.x.written(0, 0, i), record[i] & 255 ^ 255);
        }
        Bench longest = Bench.connected();
        longest.sayBytes(0, Bench.row(400, 1));
        Check.due("byte 421 of the longest", longest.x.alter(0, 421, 1), true);
        Check.due("byte 422 of the longest", longest.x.alter(0, 422, 1), false);
    }

    @Says(promise = 14, text = "Byte i of record k that lies there.")
    private static void writtenLooks() {
        Bench b = lying(3);
        byte[] secret = b.secretBytes(0, 0);
        for (int k = 0; k < 3; k++) {
            byte[] want = Crypto.seal(secret, k, Crypto.join(Bench.row(k + 1, 7 * k), Crypto.bytes(23)));
            Check.dueBytes("record " + k, b.writtenRecord(0, k), want);
        }
        Twins twins = new Twins(() -> lying(3));
        int last = Crypto.seal(secret, 2, Crypto.join(Bench.row(3, 14), Crypto.bytes(23)))[24] & 255;
        twins.dueUnchanged("the last byte of the last", x -> x.written(0, 2, 24), last);
    }

    @Says(promise = 14, text = "NONE if there is none such.")
    private static void writtenHasNoneBehindTheLast() {
        Twins twins = new Twins(() -> lying(3));
        for (int k = 0; k < 3; k++) {
            int record = k;
            for (int i : new int[] {-1, -2, 23 + k, 24 + k, 421, 422, Integer.MAX_VALUE, Integer.MIN_VALUE}) {
                twins.dueNone("written(0, " + k + ", " + i + ")", x -> x.written(0, record, i));
            }
        }
        for (int k : new int[] {3, 4, -1, -2, 31, 32, Integer.MAX_VALUE, Integer.MIN_VALUE}) {
            twins.dueNone("written(0, " + k + ", 0)", x -> x.written(0, k, 0));
        }
        for (int none : Bench.NO_ENDS) {
            twins.dueNone("written(" + none + ", 0, 0)", x -> x.written(none, 0, 0));
        }
        twins.dueNone("one that lies there no more", x -> x.written(1, 0, 0));
        Bench full = Bench.said(0, 32);
        Check.due("record 30 of 32", full.x.written(0, 30, 0), 23);
        Check.due("record 31 of 32", full.x.written(0, 31, 0), 23);
        Check.due("record 32 of 32", full.x.written(0, 32, 0), NONE);
        full.x.carry(0, 1);
        Check.due("record 30 of 31", full.x.written(0, 30, 0), 23);
        Check.due("record 31 of 31", full.x.written(0, 31, 0), NONE);
    }
}
