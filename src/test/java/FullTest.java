/** Where 32 records lie there already, and where an END has closed what it writes. */
public final class FullTest {
    private static final int NONE = SecretEnds.NONE;

    private FullTest() {
    }

    public static void main(String[] args) {
        nothingIsSaid();
        anAlertIsLost();
        aPlainAlertIsLost();
        aFinishedIsLost();
        anUpdateInTurnIsLost(0);
        anUpdateInTurnIsLost(1);
        anUpdateThatIsNotOwed();
        oneClosedWritesNoAlert();
        oneClosedAndFullOwesNothing();
        thirtyOneIsNotFull();
        Check.finish();
    }

    private static void fill(Bench b, int end, int upTo) {
        while (b.x.state(end, 3) < upTo) {
            Check.due("fill", b.sayBytes(end, Crypto.bytes(1)) != NONE, true);
        }
    }

    private static void nothingIsSaid() {
        Bench b = Bench.connected();
        fill(b, 0, 32);
        byte[] secret = b.secretBytes(0, 0);
        Check.due("say", b.sayBytes(0, Crypto.bytes(1)), NONE);
        Check.due("the tape stays", b.x.about(0), 1);
        Check.due("update", b.x.update(0, 0), NONE);
        Check.due("close", b.x.close(0), false);
        Check.due("not closed", b.x.state(0, 7), 0);
        Check.due("records", b.x.state(0, 3), 32);
        Check.due("the number", b.x.state(0, 5), 32);
        Check.dueBytes("the secret", b.secretBytes(0, 0), secret);
        Check.due("it is CONNECTED", b.x.state(0, 0), 6);
        b.x.carry(0, 1);
        Check.due("with one less", b.x.say(0), 32);
    }

    private static void anAlertIsLost() {
        Bench b = Bench.connected();
        fill(b, 1, 32);
        Check.due("give", b.giveBytes(1, Crypto.NOTHING), 7);
        b.dueAlert("also where it couldn't be written", 1, 50);
        Check.due("records", b.x.state(1, 3), 32);
        Check.due("the number", b.x.state(1, 5), 32);
    }

    private static void doubleHello(Bench b) {
        for (int n = b.x.state(0, 3); n < 32; n++) {
            Check.due("double", b.x.meddle(0, 1), true);
        }
    }

    private static void aPlainAlertIsLost() {
        Bench b = Bench.started();
        doubleHello(b);
        Check.due("give", b.giveBytes(0, Crypto.record(22, Crypto.message(1, Crypto.NOTHING))), 7);
        b.dueAlert("a client's", 0, 10);
        Check.due("records", b.x.state(0, 3), 32);
        Check.due("the last is a CLIENTHELLO", b.x.written(0, 31, 0), 22);
    }

    private static void aFinishedIsLost() {
        Bench b = Bench.started();
        b.x.meddle(0, 1);
        b.x.carry(0, 1);
        b.x.carry(1, 0);
        b.x.carry(1, 0);
        doubleHello(b);
        byte[] writes = b.secretBytes(0, 0);
        byte[] reads = b.secretBytes(0, 1);
        Check.due("FINISHED is read", b.x.carry(1, 0), 7);
        Check.due("no alert", b.x.state(0, 1), NONE);
        Check.due("by no ALERT", b.x.state(0, 2), NONE);
        Check.due("records", b.x.state(0, 3), 32);
        Check.dueBytes("it writes by", b.secretBytes(0, 0), writes);
        Check.dueBytes("it reads by", b.secretBytes(0, 1), reads);
        Check.due("the number written", b.x.state(0, 5), 0);
        Check.due("the number read", b.x.state(0, 6), 2);
    }

    private static void anUpdateInTurnIsLost(int end) {
        Bench b = Bench.connected();
        fill(b, end, 32);
        byte[] writes = b.secretBytes(end, 0);
        byte[] reads = b.secretBytes(end, 1);
        b.x.update(1 - end, 1);
        Check.due("UPDATE 1 is read by " + end, b.x.carry(1 - end, end), 7);
        Check.due("no alert", b.x.state(end, 1), NONE);
        Check.due("by no ALERT", b.x.state(end, 2), NONE);
        Check.due("records", b.x.state(end, 3), 32);
        Check.dueBytes("it writes by", b.secretBytes(end, 0), writes);
        Check.due("the number written", b.x.state(end, 5), 32);
        Check.dueBytes("it reads by the next", b.secretBytes(end, 1), Crypto.next(reads));
        Check.due("the number read", b.x.state(end, 6), 0);
    }

    private static void anUpdateThatIsNotOwed() {
        Bench b = Bench.connected();
        fill(b, 0, 32);
        b.x.update(1, 0);
        Check.due("UPDATE 0 is read", b.x.carry(1, 0), 6);
        Check.due("records", b.x.state(0, 3), 32);
    }

    private static void oneClosedWritesNoAlert() {
        Bench b = Bench.connected();
        b.x.close(0);
        Check.due("give", b.giveBytes(0, Crypto.NOTHING), 7);
        b.dueAlert("also where it couldn't be written", 0, 50);
        Check.due("the close lies there alone", b.x.state(0, 3), 1);
        Check.due("the number", b.x.state(0, 5), 1);
        Check.due("it has closed", b.x.state(0, 7), 1);
    }

    private static void oneClosedAndFullOwesNothing() {
        Bench b = Bench.connected();
        fill(b, 0, 31);
        Check.due("close", b.x.close(0), true);
        Check.due("records", b.x.state(0, 3), 32);
        b.x.update(1, 1);
        Check.due("UPDATE 1 is read", b.x.carry(1, 0), 6);
        Check.due("records", b.x.state(0, 3), 32);
    }

    private static void thirtyOneIsNotFull() {
        Bench b = Bench.connected();
        fill(b, 0, 31);
        b.x.update(1, 1);
        Check.due("UPDATE 1 is read", b.x.carry(1, 0), 6);
        Check.due("UPDATE 0 is the last", b.x.state(0, 3), 32);
        Check.due("its length", b.x.written(0, 31, 4), 22);
        Check.due("it writes by the next", b.x.state(0, 5), 0);
    }
}
