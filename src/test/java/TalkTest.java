/** Promises 7, 8, 9 and 15: what CONNECTED ENDS say, change and close, and what they are given. */
public final class TalkTest {
    private static final int NONE = SecretEnds.NONE;

    private TalkTest() {
    }

    public static void main(String[] args) {
        sayWritesSealed();
        sayEveryLength();
        sayRefuses();
        onlyConnectedEndsTalk();
        updateChangesKeys();
        updateAsks();
        updateRefuses();
        closeWritesAlert();
        closedEndsReadOn();
        givenIsWhatWasSaid();
        givenHasAnEnd();
        Check.finish();
    }

    private static void sayWritesSealed() {
        Bench b = Bench.connected();
        byte[] secret = b.secretBytes(0, 0);
        Check.due("say", b.sayBytes(0, Crypto.bytes(104, 105)), 1);
        Check.due("the tape is empty", b.x.about(0), 0);
        Check.due("say again", b.sayBytes(0, Crypto.bytes(0)), 2);
        byte[] inner = Crypto.bytes(104, 105, 23);
        Check.dueBytes("the first record", b.writtenRecord(0, 0), Crypto.seal(secret, 0, inner));
        Check.dueBytes("the second record", b.writtenRecord(0, 1), Crypto.seal(secret, 1, Crypto.bytes(0, 23)));
        Check.due("the number of the next", b.x.state(0, 5), 2);
    }

    private static void sayEveryLength() {
        for (int n = 1; n <= 400; n += n < 70 ? 1 : 33) {
            Bench b = Bench.connected();
            byte[] words = Bench.row(n, n);
            byte[] secret = b.secretBytes(1, 0);
            Check.due("say " + n, b.sayBytes(1, words), 1);
            byte[] want = Crypto.seal(secret, 0, Crypto.join(words, Crypto.bytes(23)));
            for (int i = 0; i < want.length; i += 1 + want.length / 60) {
                Check.due("byte " + i + " of " + n + " said", b.x.written(1, 0, i), want[i] & 255);
            }
            Check.due("behind the last byte", b.x.written(1, 0, want.length), NONE);
            Check.due("it is read", b.x.carry(1, 0), 6);
            Check.due("all are given", b.x.state(0, 4), n);
        }
    }

    private static void sayRefuses() {
        Bench b = Bench.connected();
        Check.due("say nothing", b.sayBytes(0, Crypto.NOTHING), NONE);
        Check.due("say 401", b.sayBytes(0, new byte[401]), NONE);
        Check.due("the tape stays", b.x.about(0), 401);
        b.x.end(400);
        for (int end : new int[] {2, -1, 4, Integer.MAX_VALUE}) {
            Check.due("say(" + end + ")", b.x.say(end), NONE);
        }
        Check.due("the tape stays", b.x.about(0), 400);
        Check.due("no record", b.x.state(0, 3), 0);
        Check.due("say 400", b.x.say(0), 1);
    }

    private static void onlyConnectedEndsTalk() {
        Bench[] all = {Bench.told(), Bench.started(), Bench.answered(), Bench.waiting()};
        for (Bench b : all) {
            for (int end = 0; end < 2; end++) {
                String what = "in state " + b.x.state(end, 0) + " ";
                int lying = b.x.state(end, 3);
                Check.due(what + "say", b.sayBytes(end, Crypto.bytes(1)), NONE);
                Check.due(what + "the tape stays", b.x.about(0), 1);
                Check.due(what + "update", b.x.update(end, 0), NONE);
                Check.due(what + "close", b.x.close(end), false);
                Check.due(what + "records", b.x.state(end, 3), lying);
            }
        }
        Bench b = Bench.connected();
        b.giveBytes(0, Crypto.NOTHING);
        Check.due("FAILED", b.x.state(0, 0), 7);
        Check.due("FAILED: say", b.sayBytes(0, Crypto.bytes(1)), NONE);
        Check.due("FAILED: update", b.x.update(0, 0), NONE);
        Check.due("FAILED: close", b.x.close(0), false);
    }

    private static void updateChangesKeys() {
        Bench b = Bench.connected();
        byte[] old = b.secretBytes(0, 0);
        b.sayBytes(0, Crypto.bytes(9));
        Check.due("update", b.x.update(0, 0), 2);
        byte[] want = Crypto.seal(old, 1, Crypto.join(Crypto.update(0), Crypto.bytes(22)));
        Check.dueBytes("UPDATE by the old keys", b.writtenRecord(0, 1), want);
        Check.dueBytes("the next secret", b.secretBytes(0, 0), Crypto.next(old));
        Check.due("numbers begin anew", b.x.state(0, 5), 0);
        b.sayBytes(0, Crypto.bytes(8));
        Check.dueBytes("said by the new keys", b.writtenRecord(0, 2), Crypto.seal(Crypto.next(old), 0, Crypto.bytes(8, 23)));
        b.x.carry(0, 1);
        Check.due("the reader's number", b.x.state(1, 6), 1);
        Check.due("the reader reads UPDATE", b.x.carry(0, 1), 6);
        Check.due("the reader's number begins anew", b.x.state(1, 6), 0);
        Check.dueBytes("the reader's next secret", b.secretBytes(1, 1), Crypto.next(old));
        Check.due("by 0 nothing is written in turn", b.x.state(1, 3), 0);
        Check.due("the reader reads on", b.x.carry(0, 1), 6);
        Check.due("two bytes are given", b.x.state(1, 4), 2);
    }

    private static void updateAsks() {
        Bench b = Bench.connected();
        byte[] old = b.secretBytes(0, 0);
        b.sayBytes(0, Crypto.bytes(1));
        Check.due("update(1, 1)", b.x.update(1, 1), 1);
        Check.due("it is read", b.x.carry(1, 0), 6);
        Check.due("an UPDATE in turn lies behind", b.x.state(0, 3), 2);
        byte[] want = Crypto.seal(old, 1, Crypto.join(Crypto.update(0), Crypto.bytes(22)));
        Check.dueBytes("the UPDATE in turn", b.writtenRecord(0, 1), want);
        Check.dueBytes("its own next secret", b.secretBytes(0, 0), Crypto.next(old));
        Check.due("numbers begin anew", b.x.state(0, 5), 0);
        b.x.carry(0, 1);
        Check.due("the asker reads it", b.x.carry(0, 1), 6);
        Check.due("and writes nothing in turn", b.x.state(1, 3), 0);
        Check.dueBytes("both have the same", b.secretBytes(1, 1), Crypto.next(old));
    }

    private static void updateRefuses() {
        Bench b = Bench.connected();
        byte[] old = b.secretBytes(1, 0);
        for (int ask : new int[] {2, -1, 255, Integer.MAX_VALUE, Integer.MIN_VALUE}) {
            Check.due("update(1, " + ask + ")", b.x.update(1, ask), NONE);
        }
        for (int end : new int[] {2, -1, 4}) {
            Check.due("update(" + end + ", 0)", b.x.update(end, 0), NONE);
        }
        Check.due("no record", b.x.state(1, 3), 0);
        Check.dueBytes("the secret stays", b.secretBytes(1, 0), old);
        b.put(Crypto.bytes(1, 2, 3));
        Check.due("the tape does not matter", b.x.update(1, 0), 1);
        Check.due("and stays", b.x.about(0), 3);
    }

    private static void closeWritesAlert() {
        Bench b = Bench.connected();
        byte[] secret = b.secretBytes(0, 0);
        Check.due("close(2)", b.x.close(2), false);
        Check.due("close(-1)", b.x.close(-1), false);
        Check.due("not closed", b.x.state(0, 7), 0);
        Check.due("close", b.x.close(0), true);
        Check.dueBytes("ALERT 1, 0", b.writtenRecord(0, 0), Crypto.seal(secret, 0, Crypto.bytes(1, 0, 21)));
        Check.due("closed", b.x.state(0, 7), 1);
        Check.due("it is CONNECTED", b.x.state(0, 0), 6);
        Check.due("the other has not", b.x.state(0, 8), 0);
        Check.due("close again", b.x.close(0), false);
        Check.due("say", b.sayBytes(0, Crypto.bytes(1)), NONE);
        Check.due("the tape stays", b.x.about(0), 1);
        Check.due("update", b.x.update(0, 0), NONE);
        Check.due("one record", b.x.state(0, 3), 1);
        Check.due("it is read", b.x.carry(0, 1), 6);
        Check.due("the other side has closed", b.x.state(1, 8), 1);
        Check.due("it has not itself", b.x.state(1, 7), 0);
        Check.due("it did not fail by it", b.x.state(1, 2), NONE);
    }

    private static void closedEndsReadOn() {
        Bench b = Bench.connected();
        b.x.close(0);
        b.x.carry(0, 1);
        Check.due("the other says", b.sayBytes(1, Crypto.bytes(5)), 1);
        Check.due("it is read", b.x.carry(1, 0), 6);
        Check.due("and given", b.x.given(0, 0), 5);
        byte[] writes = b.secretBytes(0, 0);
        byte[] reads = b.secretBytes(0, 1);
        Check.due("the other asks for UPDATE", b.x.update(1, 1), 1);
        Check.due("it is read", b.x.carry(1, 0), 6);
        Check.due("nothing is written in turn", b.x.state(0, 3), 0);
        Check.dueBytes("what it writes by stays", b.secretBytes(0, 0), writes);
        Check.dueBytes("what it reads by is the next", b.secretBytes(0, 1), Crypto.next(reads));
    }

    private static void givenIsWhatWasSaid() {
        Bench b = Bench.connected();
        Check.due("nothing is given", b.x.given(0, 0), NONE);
        byte[] first = Bench.row(50, 120);
        byte[] second = Bench.row(7, 3);
        b.sayBytes(1, first);
        b.sayBytes(1, second);
        b.x.carry(1, 0);
        b.x.carry(1, 0);
        Check.dueBytes("given", b.givenBytes(0), Crypto.join(first, second));
        for (int i : new int[] {57, -1, 2000, Integer.MAX_VALUE, Integer.MIN_VALUE}) {
            Check.due("given(0, " + i + ")", b.x.given(0, i), NONE);
        }
        for (int end : new int[] {2, -1, 4}) {
            Check.due("given(" + end + ", 0)", b.x.given(end, 0), NONE);
        }
        Check.due("the sayer is given nothing", b.x.state(1, 4), 0);
        b.giveBytes(0, Crypto.NOTHING);
        Check.due("given stays with one FAILED", b.x.given(0, 50), 3);
    }

    private static void givenHasAnEnd() {
        Bench b = Bench.connected();
        int[] lengths = {400, 400, 400, 400, 390, 20, 5};
        int[] due = {400, 800, 1200, 1600, 1990, 2000, 2000};
        for (int i = 0; i < lengths.length; i++) {
            b.sayBytes(0, Bench.row(lengths[i], 10 * i));
            Check.due("read", b.x.carry(0, 1), 6);
            Check.due("bytes given", b.x.state(1, 4), due[i]);
        }
        Check.due("the last before", b.x.given(1, 1989), (40 + 389) & 255);
        Check.due("the first of a part", b.x.given(1, 1990), 50);
        Check.due("the last that is given", b.x.given(1, 1999), 59);
        Check.due("more are lost", b.x.given(1, 2000), NONE);
    }
}
