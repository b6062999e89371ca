import java.util.Arrays;

/** Where 32 records lie there already, and where an END has closed what it writes. */
public final class FullTest {
    private static final int NONE = SecretEnds.NONE;

    private FullTest() {
    }

    public static void main(String[] args) {
        Check.run(FullTest.class);
    }

    private static void fill(Bench b, int end, int upTo) {
        for (int n = b.x.state(end, 3); n < upTo; n++) {
            Check.due("fill", b.sayBytes(end, Crypto.bytes(1)), n + 1);
        }
    }

    @Says(promise = {7, 9}, text = "or 32 lie there.")
    private static void nothingIsSaid() {
        Bench b = Bench.connected();
        fill(b, 0, 32);
        byte[] secret = b.secretBytes(0, 0);
        Check.due("say", b.sayBytes(0, Crypto.bytes(1)), NONE);
        Check.due("the tape stays", b.x.about(0), 1);
        Check.due("update", b.x.update(0, 0), NONE);
        Check.due("close", b.x.close(0), false);
        Check.due("not closed", b.x.state(0, 7), 0);
        Check.due("records", b.x.state(0, 3), 32);
        Check.due("the number", b.x.state(0, 5), 32);
        Check.dueBytes("the secret", b.secretBytes(0, 0), secret);
        Check.due("it is CONNECTED", b.x.state(0, 0), 6);
        b.x.carry(0, 1);
        Check.due("with one less", b.x.say(0), 32);
    }

    @Says(promise = {10, 11}, part = "III", text = "Where 32 records lie there already, what an END would write of itself is lost: an alert;")
    private static void anAlertIsLost() {
        Bench b = Bench.connected();
        fill(b, 1, 32);
        Check.due("give", b.giveBytes(1, Crypto.NOTHING), 7);
        b.dueAlert("also where it couldn't be written", 1, 50);
        Check.due("records", b.x.state(1, 3), 32);
        Check.due("the number", b.x.state(1, 5), 32);
    }

    @Says(promise = {10, 11}, part = "III", text = "Where 32 records lie there already, what an END would write of itself is lost: an alert;")
    private static void aPlainAlertIsLost() {
        Bench b = Bench.started();
        b.doubled(0, 32);
        Check.due("give", b.giveBytes(0, Crypto.record(22, Crypto.message(1, Crypto.NOTHING))), 7);
        b.dueAlert("a client's", 0, 10);
        Check.due("records", b.x.state(0, 3), 32);
        Check.due("the last is a CLIENTHELLO", b.x.written(0, 31, 0), 22);
    }

    @Says(promise = 10, part = "III", text = "a client's FINISHED, an UPDATE in turn: it is FAILED then (the keys that it writes by are as ahead of that, a client's that it reads by, too).")
    private static void aFinishedIsLost() {
        Bench b = Bench.started();
        b.x.meddle(0, 1);
        b.x.carry(0, 1);
        b.x.carry(1, 0);
        b.x.carry(1, 0);
        b.doubled(0, 32);
        byte[] writes = b.secretBytes(0, 0);
        byte[] reads = b.secretBytes(0, 1);
        Check.due("FINISHED is read", b.x.carry(1, 0), 7);
        Check.due("no alert", b.x.state(0, 1), NONE);
        Check.due("by no ALERT", b.x.state(0, 2), NONE);
        Check.due("records", b.x.state(0, 3), 32);
        Check.dueBytes("it writes by", b.secretBytes(0, 0), writes);
        Check.dueBytes("it reads by", b.secretBytes(0, 1), reads);
        Check.due("the number written", b.x.state(0, 5), 0);
        Check.due("the number read", b.x.state(0, 6), 2);
    }

    @Says(promise = {10, 11}, part = "III", text = "a client's FINISHED, an UPDATE in turn: it is FAILED then (the keys that it writes by are as ahead of that, a client's that it reads by, too).")
    private static void anUpdateInTurnIsLost() {
        dueLostUpdate(0);
        dueLostUpdate(1);
    }

    private static void dueLostUpdate(int end) {
        Bench b = Bench.connected();
        fill(b, end, 32);
        byte[] writes = b.secretBytes(end, 0);
        byte[] reads = b.secretBytes(end, 1);
        b.x.update(1 - end, 1);
        Check.due("UPDATE 1 is read by " + end, b.x.carry(1 - end, end), 7);
        Check.due("no alert", b.x.state(end, 1), NONE);
        Check.due("by no ALERT", b.x.state(end, 2), NONE);
        Check.due("records", b.x.state(end, 3), 32);
        Check.dueBytes("it writes by", b.secretBytes(end, 0), writes);
        Check.due("the number written", b.x.state(end, 5), 32);
        Check.dueBytes("it reads by the next", b.secretBytes(end, 1), Crypto.next(reads));
        Check.due("the number read", b.x.state(end, 6), 0);
    }

    @Says(promise = {10, 11}, part = "III", text = "an UPDATE in turn: it is FAILED then")
    private static void anUpdateThatIsNotOwed() {
        Bench b = Bench.connected();
        fill(b, 0, 32);
        b.x.update(1, 0);
        Check.due("UPDATE 0 is read", b.x.carry(1, 0), 6);
        Check.due("records", b.x.state(0, 3), 32);
    }

    @Says(promise = {10, 11}, part = "III", text = "An END that has closed what it writes writes nothing more (no alert, no UPDATE in turn).")
    private static void oneClosedWritesNoAlert() {
        Bench b = Bench.connected();
        b.x.close(0);
        Check.due("give", b.giveBytes(0, Crypto.NOTHING), 7);
        b.dueAlert("also where it couldn't be written", 0, 50);
        Check.due("the close lies there alone", b.x.state(0, 3), 1);
        Check.due("the number", b.x.state(0, 5), 1);
        Check.due("it has closed", b.x.state(0, 7), 1);
    }

    @Says(promise = {10, 11}, part = "III", text = "An END that has closed what it writes writes nothing more (no alert, no UPDATE in turn).")
    private static void oneClosedAndFullOwesNothing() {
        Bench b = Bench.connected();
        fill(b, 0, 31);
        Check.due("close", b.x.close(0), true);
        Check.due("records", b.x.state(0, 3), 32);
        b.x.update(1, 1);
        Check.due("UPDATE 1 is read", b.x.carry(1, 0), 6);
        Check.due("records", b.x.state(0, 3), 32);
    }

    @Says(promise = {10, 11}, part = "III", text = "an UPDATE in turn: it is FAILED then")
    private static void thirtyOneIsNotFull() {
        Bench b = Bench.connected();
        fill(b, 0, 31);
        b.x.update(1, 1);
        Check.due("UPDATE 1 is read", b.x.carry(1, 0), 6);
        Check.due("UPDATE 0 is the last", b.x.state(0, 3), 32);
        Check.due("its length", b.x.written(0, 31, 4), 22);
        Check.due("it writes by the next", b.x.state(0, 5), 0);
    }

    /** At 31 the alert is the last of 32; at 32 it is lost: in every state in which an END reads. */
    @Says(promise = {10, 11, 17}, part = "III",
        text = "Where 32 records lie there already, what an END would write of itself is lost: an alert;")
    private static void anAlertAtThirtyOneAndThirtyTwo() {
        // A server in state 4 has written nothing that could lie there, a client in 2 and 3 what it kept of its hello.
        int[][] places = {{1, 0}, {2, 0}, {3, 0}, {5, 1}, {6, 0}, {6, 1}};
        for (int[] place : places) {
            int end = place[1];
            for (int records : new int[] {30, 31, 32}) {
                Bench b = kept(place[0], end).doubled(end, records);
                int number = b.x.state(end, 5);
                boolean sealed = place[0] != 1;
                byte[] want = Crypto.record(21, Crypto.bytes(2, 50));
                if (sealed) {
                    want = Crypto.seal(b.secretBytes(end, 0), number, Crypto.bytes(2, 50, 21));
                }
                byte[] last = b.writtenRecord(end, records - 1);
                Check.due("nothing is given", b.giveBytes(end, Crypto.NOTHING), 7);
                b.dueAlert("at " + records, end, 50);
                boolean lost = records == 32;
                Check.due("records", b.x.state(end, 3), lost ? 32 : records + 1);
                Check.due("the number", b.x.state(end, 5), sealed && !lost ? number + 1 : number);
                Check.dueBytes("the last of before", b.writtenRecord(end, records - 1), last);
                Check.dueBytes("the alert", b.writtenRecord(end, records), lost ? Crypto.NOTHING : want);
            }
        }
    }

    /** An END in a state of which at least one record lies there. */
    private static Bench kept(int state, int end) {
        if (state == 6) {
            return Bench.said(end, 1);
        }
        if (state == 5) {
            return Bench.in(5, 1);
        }
        Bench b = Bench.started();
        b.x.meddle(0, 1);
        b.x.carry(0, 1);
        for (int i = 1; i < state; i++) {
            b.x.carry(1, 0);
        }
        Check.due("the state that was to come", b.x.state(end, 0), state);
        return b;
    }

    @Says(promise = {10, 16, 17}, part = "III", text = "a client's FINISHED, an UPDATE in turn: it is FAILED then "
        + "(the keys that it writes by are as ahead of that, a client's that it reads by, too).")
    private static void aFinishedAtThirtyOneAndThirtyTwo() {
        for (int records : new int[] {30, 31, 32}) {
            boolean lost = records == 32;
            Bench b = kept(3, 0).doubled(0, records);
            byte[] writes = b.secretBytes(0, 0);
            byte[] reads = b.secretBytes(0, 1);
            Check.due("FINISHED is read at " + records, b.x.carry(1, 0), lost ? 7 : 6);
            Check.due("records", b.x.state(0, 3), lost ? 32 : records + 1);
            Check.due("no alert", b.x.state(0, 1), NONE);
            Check.due("by no ALERT", b.x.state(0, 2), NONE);
            Check.due("the keys it writes by stay", same(b.secretBytes(0, 0), writes), lost);
            Check.due("the keys it reads by stay", same(b.secretBytes(0, 1), reads), lost);
            Check.due("the number written", b.x.state(0, 5), 0);
            Check.due("the number read", b.x.state(0, 6), lost ? 2 : 0);
            Check.due("it talks", b.sayBytes(0, Crypto.bytes(1)), records == 30 ? 32 : NONE);
        }
    }

    private static boolean same(byte[] one, byte[] other) {
        return Arrays.equals(one, other);
    }

    @Says(promise = {10, 11, 16, 17}, part = "III", text = "a client's FINISHED, an UPDATE in turn: it is FAILED then "
        + "(the keys that it writes by are as ahead of that, a client's that it reads by, too).")
    private static void anUpdateInTurnAtThirtyOneAndThirtyTwo() {
        for (int end = 0; end < 2; end++) {
            for (int records : new int[] {30, 31, 32}) {
                for (int ask = 0; ask < 2; ask++) {
                    dueUpdateAt(end, records, ask);
                }
            }
        }
    }

    private static void dueUpdateAt(int end, int records, int ask) {
        boolean lost = records == 32 && ask == 1;
        Bench b = Bench.said(end, 1).doubled(end, records);
        byte[] writes = b.secretBytes(end, 0);
        String what = "UPDATE " + ask + " at " + records;
        Check.due(what, b.giveSealed(end, Crypto.join(Crypto.update(ask), Crypto.bytes(22))), lost ? 7 : 6);
        Check.due(what + ": records", b.x.state(end, 3), Math.min(32, records + ask));
        Check.due(what + ": no alert", b.x.state(end, 1), NONE);
        Check.due(what + ": by no ALERT", b.x.state(end, 2), NONE);
        boolean turned = ask == 1 && !lost;
        Check.dueBytes(what + ": it writes by", b.secretBytes(end, 0), turned ? Crypto.next(writes) : writes);
        Check.due(what + ": the number written", b.x.state(end, 5), turned ? 0 : 1);
        Check.due(what + ": the number read", b.x.state(end, 6), 0);
    }

    /** Ahead of the close it writes, behind it nothing; what it reads goes on. */
    @Says(promise = {10, 11, 16, 17}, part = "III",
        text = "An END that has closed what it writes writes nothing more (no alert, no UPDATE in turn).")
    private static void oneClosedWritesNothingMore() {
        for (int end = 0; end < 2; end++) {
            for (int closed = 0; closed < 2; closed++) {
                Bench b = Bench.connected();
                Check.due("close", closed == 0 || b.x.close(end), true);
                byte[] writes = b.secretBytes(end, 0);
                byte[] reads = b.secretBytes(end, 1);
                byte[] asks = Crypto.join(Crypto.update(1), Crypto.bytes(22));
                Check.due("UPDATE 1 is read", b.giveSealed(end, asks), 6);
                Check.due("one record either way", b.x.state(end, 3), 1);
                Check.dueBytes("it writes by", b.secretBytes(end, 0), closed == 0 ? Crypto.next(writes) : writes);
                Check.dueBytes("it reads by", b.secretBytes(end, 1), Crypto.next(reads));
                Check.due("the number written", b.x.state(end, 5), closed);
                Check.due("a wrong record", b.giveBytes(end, Crypto.NOTHING), 7);
                Check.due("an alert or none", b.x.state(end, 3), 2 - closed);
                Check.due("the number written", b.x.state(end, 5), 1);
                b.dueAlert("a wrong record", end, 50);
            }
        }
    }

    /** A server that answers has room: nothing that it has written lies there ahead of that. */
    @Says(promise = 10, part = "II", text = "then it writes SERVERHELLO, EXTENSIONS, FINISHED: 5, waits for FINISHED; 6.")
    private static void aServerHasRoomToAnswer() {
        Bench b = Bench.started();
        Check.due("nothing of it lies there", b.x.meddle(1, 1), false);
        b.doubled(0, 32);
        Check.due("CLIENTHELLO is read", b.x.carry(0, 1), 5);
        Check.due("three lie there", b.x.state(1, 3), 3);
        Check.due("none behind them", b.x.written(1, 3, 0), NONE);
    }
}
