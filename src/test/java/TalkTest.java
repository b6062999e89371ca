/** Promises 7, 8, 9 and 15: what CONNECTED ENDS say, change and close, and what they are given. */
public final class TalkTest {
    private static final int NONE = SecretEnds.NONE;

    private TalkTest() {
    }

    public static void main(String[] args) {
        Check.run(TalkTest.class);
    }

    /** A pair CONNECTED, with so many bytes on the tape. */
    private static Bench connectedAndTape(int n) {
        Bench b = Bench.connected();
        b.put(Bench.row(n, 30));
        return b;
    }

    /** A pair of which this END is in this state, with three bytes on the tape. */
    private static Bench inAndTape(int state, int end) {
        Bench b = Bench.in(state, end);
        b.put(Bench.row(3, 30));
        return b;
    }

    /** So many records of this END lie there, with three bytes on the tape. */
    private static Bench lying(int end, int records) {
        Bench b = Bench.said(end, 1).doubled(end, records);
        b.put(Bench.row(3, 30));
        return b;
    }

    /** This END has closed what it writes, with three bytes on the tape. */
    private static Bench closed(int end) {
        Bench b = connectedAndTape(3);
        Check.due("close", b.x.close(end), true);
        return b;
    }

    /** The other side of this END has closed, with three bytes on the tape. */
    private static Bench otherClosed(int end) {
        Bench b = closed(1 - end);
        Check.due("the close is read", b.x.carry(1 - end, end), 6);
        return b;
    }

    @Says(promise = 7, text = "is said: how many records the END has written that lie there.")
    @Says(promise = {7, 14}, part = "II", text = "CONNECTED: what is said goes SEALED, inner type 23.")
    private static void sayWritesSealed() {
        Bench b = Bench.connected();
        byte[] secret = b.secretBytes(0, 0);
        Check.due("say", b.sayBytes(0, Crypto.bytes(104, 105)), 1);
        Check.due("the tape is empty", b.x.about(0), 0);
        Check.due("say again", b.sayBytes(0, Crypto.bytes(0)), 2);
        byte[] inner = Crypto.bytes(104, 105, 23);
        Check.dueBytes("the first record", b.writtenRecord(0, 0), Crypto.seal(secret, 0, inner));
        Check.dueBytes("the second record", b.writtenRecord(0, 1), Crypto.seal(secret, 1, Crypto.bytes(0, 23)));
        Check.due("the number of the next", b.x.state(0, 5), 2);
    }

    @Says(promise = {7, 14}, part = "I", text = "SEALED: what is in it, its inner type, no zeros behind; "
        + "by ChaCha20-Poly1305 with the five bytes ahead as what goes beside;")
    private static void sayEveryLength() {
        for (int n = 1; n <= 400; n += n < 70 ? 1 : 33) {
            Bench b = Bench.connected();
            byte[] words = Bench.row(n, n);
            byte[] secret = b.secretBytes(1, 0);
            Check.due("say " + n, b.sayBytes(1, words), 1);
            byte[] want = Crypto.seal(secret, 0, Crypto.join(words, Crypto.bytes(23)));
            for (int i = 0; i < want.length; i += 1 + want.length / 60) {
                Check.due("byte " + i + " of " + n + " said", b.x.written(1, 0, i), want[i] & 255);
            }
            Check.due("behind the last byte", b.x.written(1, 0, want.length), NONE);
            Check.due("it is read", b.x.carry(1, 0), 6);
            Check.due("all are given", b.x.state(0, 4), n);
        }
    }

    @Says(promise = 8, text = "UPDATE 0 or 1 is written: as say().")
    @Says(promise = {8, 10, 16}, part = "II",
        text = "UPDATE makes the writer's next secret, for what it writes behind it, the reader's for what it reads;")
    @Says(promise = {8, 16}, part = "I", text = "the next one EX(s, \"traffic upd\", nothing).")
    private static void updateChangesKeys() {
        Bench b = Bench.connected();
        byte[] old = b.secretBytes(0, 0);
        b.sayBytes(0, Crypto.bytes(9));
        Check.due("update", b.x.update(0, 0), 2);
        byte[] want = Crypto.seal(old, 1, Crypto.join(Crypto.update(0), Crypto.bytes(22)));
        Check.dueBytes("UPDATE by the old keys", b.writtenRecord(0, 1), want);
        Check.dueBytes("the next secret", b.secretBytes(0, 0), Crypto.next(old));
        Check.due("numbers begin anew", b.x.state(0, 5), 0);
        b.sayBytes(0, Crypto.bytes(8));
        Check.dueBytes("said by the new keys", b.writtenRecord(0, 2), Crypto.seal(Crypto.next(old), 0, Crypto.bytes(8, 23)));
        b.x.carry(0, 1);
        Check.due("the reader's number", b.x.state(1, 6), 1);
        Check.due("the reader reads UPDATE", b.x.carry(0, 1), 6);
        Check.due("the reader's number begins anew", b.x.state(1, 6), 0);
        Check.dueBytes("the reader's next secret", b.secretBytes(1, 1), Crypto.next(old));
        Check.due("by 0 nothing is written in turn", b.x.state(1, 3), 0);
        Check.due("the reader reads on", b.x.carry(0, 1), 6);
        Check.due("two bytes are given", b.x.state(1, 4), 2);
    }

    @Says(promise = {8, 10}, part = "II",
        text = "by 1 the reader writes an UPDATE 0 in turn (its own next secret behind that).")
    private static void updateAsks() {
        Bench b = Bench.connected();
        byte[] old = b.secretBytes(0, 0);
        b.sayBytes(0, Crypto.bytes(1));
        Check.due("update(1, 1)", b.x.update(1, 1), 1);
        Check.due("it is read", b.x.carry(1, 0), 6);
        Check.due("an UPDATE in turn lies behind", b.x.state(0, 3), 2);
        byte[] want = Crypto.seal(old, 1, Crypto.join(Crypto.update(0), Crypto.bytes(22)));
        Check.dueBytes("the UPDATE in turn", b.writtenRecord(0, 1), want);
        Check.dueBytes("its own next secret", b.secretBytes(0, 0), Crypto.next(old));
        Check.due("numbers begin anew", b.x.state(0, 5), 0);
        b.x.carry(0, 1);
        Check.due("the asker reads it", b.x.carry(0, 1), 6);
        Check.due("and writes nothing in turn", b.x.state(1, 3), 0);
        Check.dueBytes("both have the same", b.secretBytes(1, 1), Crypto.next(old));
    }

    @Says(promise = 9, text = "ALERT 1, 0 is written: true; it has closed what it writes.")
    @Says(promise = {9, 10}, part = "II", text = "ALERT (2 bytes): 1, 0 closes what the writer writes;")
    private static void closeWritesAlert() {
        Bench b = Bench.connected();
        byte[] secret = b.secretBytes(0, 0);
        Check.due("close(2)", b.x.close(2), false);
        Check.due("close(-1)", b.x.close(-1), false);
        Check.due("not closed", b.x.state(0, 7), 0);
        Check.due("close", b.x.close(0), true);
        Check.dueBytes("ALERT 1, 0", b.writtenRecord(0, 0), Crypto.seal(secret, 0, Crypto.bytes(1, 0, 21)));
        Check.due("closed", b.x.state(0, 7), 1);
        Check.due("it is CONNECTED", b.x.state(0, 0), 6);
        Check.due("the other has not", b.x.state(0, 8), 0);
        Check.due("close again", b.x.close(0), false);
        Check.due("say", b.sayBytes(0, Crypto.bytes(1)), NONE);
        Check.due("the tape stays", b.x.about(0), 1);
        Check.due("update", b.x.update(0, 0), NONE);
        Check.due("one record", b.x.state(0, 3), 1);
        Check.due("it is read", b.x.carry(0, 1), 6);
        Check.due("the other side has closed", b.x.state(1, 8), 1);
        Check.due("it has not itself", b.x.state(1, 7), 0);
        Check.due("it did not fail by it", b.x.state(1, 2), NONE);
    }

    @Says(promise = 10, part = "III", text = "An END that has closed what it writes writes nothing more")
    private static void closedEndsReadOn() {
        Bench b = Bench.connected();
        b.x.close(0);
        b.x.carry(0, 1);
        Check.due("the other says", b.sayBytes(1, Crypto.bytes(5)), 1);
        Check.due("it is read", b.x.carry(1, 0), 6);
        Check.due("and given", b.x.given(0, 0), 5);
        byte[] writes = b.secretBytes(0, 0);
        byte[] reads = b.secretBytes(0, 1);
        Check.due("the other asks for UPDATE", b.x.update(1, 1), 1);
        Check.due("it is read", b.x.carry(1, 0), 6);
        Check.due("nothing is written in turn", b.x.state(0, 3), 0);
        Check.dueBytes("what it writes by stays", b.secretBytes(0, 0), writes);
        Check.dueBytes("what it reads by is the next", b.secretBytes(0, 1), Crypto.next(reads));
    }

    @Says(promise = 15, text = "Byte i of what an END has been given.")
    private static void givenIsWhatWasSaid() {
        Bench b = Bench.connected();
        Check.due("nothing is given", b.x.given(0, 0), NONE);
        byte[] first = Bench.row(50, 120);
        byte[] second = Bench.row(7, 3);
        b.sayBytes(1, first);
        b.sayBytes(1, second);
        b.x.carry(1, 0);
        b.x.carry(1, 0);
        Check.dueBytes("given", b.givenBytes(0), Crypto.join(first, second));
        for (int i : new int[] {57, -1, 2000, Integer.MAX_VALUE, Integer.MIN_VALUE}) {
            Check.due("given(0, " + i + ")", b.x.given(0, i), NONE);
        }
        for (int end : new int[] {2, -1, 4}) {
            Check.due("given(" + end + ", 0)", b.x.given(end, 0), NONE);
        }
        Check.due("the sayer is given nothing", b.x.state(1, 4), 0);
        b.giveBytes(0, Crypto.NOTHING);
        Check.due("given stays with one FAILED", b.x.given(0, 50), 3);
    }

    /** What is said at an edge lies there as it must, and is read. */
    private static void dueSaid(Bench b, int end, int n, int records) {
        byte[] words = Bench.row(n, 30);
        byte[] secret = b.secretBytes(end, 0);
        int number = b.x.state(end, 5);
        Check.due("say " + n, b.x.say(end), records);
        Check.due("the tape is empty", b.x.about(0), 0);
        byte[] want = Crypto.seal(secret, number, Crypto.join(words, Crypto.bytes(23)));
        // Not every byte, for the 512 calls: the head, and some of the rest.
        for (int i = 0; i < want.length; i += i < 6 ? 1 : 1 + want.length / 30) {
            Check.due("byte " + i + " of " + n + " said", b.x.written(end, records - 1, i), want[i] & 255);
        }
        int last = want.length - 1;
        Check.due("the last byte of " + n + " said", b.x.written(end, records - 1, last), want[last] & 255);
        Check.due("none behind it", b.x.written(end, records - 1, last + 1), NONE);
    }

    @Says(promise = 7, text = "The tape (1 to 400 bytes; empty then)")
    private static void sayTakesOneToFourHundred() {
        for (int end = 0; end < 2; end++) {
            int who = end;
            for (int n : new int[] {1, 2, 399, 400}) {
                Bench b = connectedAndTape(n);
                dueSaid(b, end, n, 1);
                Check.due("it is read", b.x.carry(end, 1 - end), 6);
                Check.due("all are given", b.x.state(1 - end, 4), n);
                Check.due("the last that is given", b.x.given(1 - end, n - 1), 29 + n & 255);
            }
            for (int n : new int[] {0, 401, 402, 600}) {
                new Twins(() -> connectedAndTape(n)).dueNone("say " + n, x -> x.say(who));
            }
        }
    }

    /** 17 bytes more are in the record than are said: 238 is the last whose length fits in one byte. */
    @Says(promise = {7, 14}, part = "I", text = "RECORD: type, 3, 3, its length (2 bytes), so many bytes.")
    @Says(promise = {7, 14}, part = "I", text = "Numbers of two or more bytes have the highest first.")
    private static void lengthsOfTwoBytes() {
        int[][] all = {{237, 0, 254}, {238, 0, 255}, {239, 1, 0}, {240, 1, 1}};
        for (int[] one : all) {
            Bench b = connectedAndTape(one[0]);
            dueSaid(b, 0, one[0], 1);
            int[] head = {23, 3, 3, one[1], one[2]};
            for (int i = 0; i < head.length; i++) {
                Check.due("byte " + i + " of " + one[0] + " said", b.x.written(0, 0, i), head[i]);
            }
            Check.due("it is read", b.x.carry(0, 1), 6);
        }
    }

    @Says(promise = 7, text = "how many records the END has written that lie there.")
    private static void sayCountsWhatLiesThere() {
        Bench b = Bench.connected();
        Check.due("the first", b.sayBytes(0, Crypto.bytes(1)), 1);
        Check.due("the other's are not counted", b.sayBytes(1, Crypto.bytes(1)), 1);
        Check.due("the second", b.sayBytes(0, Crypto.bytes(2)), 2);
        b.x.carry(0, 1);
        Check.due("one was carried", b.sayBytes(0, Crypto.bytes(3)), 2);
        b.x.meddle(0, 1);
        Check.due("one was doubled", b.sayBytes(0, Crypto.bytes(4)), 4);
        b.x.meddle(0, 0);
        b.x.meddle(0, 0);
        Check.due("two were lost", b.sayBytes(0, Crypto.bytes(5)), 3);
        Check.due("an update counts as well", b.x.update(0, 0), 4);
    }

    @Says(promise = 7, text = "NONE (the tape stays): others, ")
    @Says(promise = 8, text = "NONE: as say(), ")
    private static void noSuchEndTalks() {
        for (int n : new int[] {1, 400}) {
            Twins twins = new Twins(() -> connectedAndTape(n));
            for (int end : Bench.NO_ENDS) {
                twins.dueNone("say(" + end + ")", x -> x.say(end));
                twins.dueNone("update(" + end + ", 0)", x -> x.update(end, 0));
                twins.dueNone("update(" + end + ", 1)", x -> x.update(end, 1));
                twins.dueFalse("close(" + end + ")", x -> x.close(end));
            }
        }
    }

    @Says(promise = 7, text = "it isn't CONNECTED, ")
    private static void sayIsForConnected() {
        for (int[] place : Bench.PLACES) {
            if (place[0] != 6) {
                Twins twins = new Twins(() -> inAndTape(place[0], place[1]));
                twins.dueNone("say in state " + place[0], x -> x.say(place[1]));
            } else {
                dueSaid(inAndTape(6, place[1]), place[1], 3, 1);
            }
        }
    }

    @Says(promise = 7, text = "has closed, ")
    private static void sayEndsWithClose() {
        for (int end = 0; end < 2; end++) {
            int who = end;
            new Twins(() -> closed(who)).dueNone("say behind its own close", x -> x.say(who));
            dueSaid(closed(1 - who), who, 3, 1);
            dueSaid(otherClosed(who), who, 3, 1);
        }
    }

    @Says(promise = 7, text = "or 32 lie there.")
    private static void sayStopsAtThirtyTwo() {
        for (int end = 0; end < 2; end++) {
            int who = end;
            dueSaid(lying(who, 30), who, 3, 31);
            dueSaid(lying(who, 31), who, 3, 32);
            new Twins(() -> lying(who, 32)).dueNone("say at 32", x -> x.say(who));
            Bench b = lying(who, 32);
            Check.due("one is lost", b.x.meddle(who, 0), true);
            dueSaid(b, who, 3, 32);
        }
        dueSaid(lying(0, 32), 1, 3, 1);
    }

    private static void dueUpdated(Bench b, int end, int ask, int records) {
        byte[] secret = b.secretBytes(end, 0);
        int number = b.x.state(end, 5);
        int tape = b.x.about(0);
        Check.due("update(" + end + ", " + ask + ")", b.x.update(end, ask), records);
        byte[] want = Crypto.seal(secret, number, Crypto.join(Crypto.update(ask), Crypto.bytes(22)));
        Check.dueBytes("UPDATE " + ask, b.writtenRecord(end, records - 1), want);
        Check.dueBytes("the next secret", b.secretBytes(end, 0), Crypto.next(secret));
        Check.due("numbers begin anew", b.x.state(end, 5), 0);
        Check.due("the tape stays", b.x.about(0), tape);
    }

    /** The tape has no part in it: neither none nor too many bytes for say() hinder it. */
    @Says(promise = 8, text = "UPDATE 0 or 1 is written: as say().")
    @Says(promise = {8, 14}, part = "II", text = "UPDATE (24): 0 or 1.")
    private static void updateWritesZeroOrOne() {
        for (int end = 0; end < 2; end++) {
            for (int ask = 0; ask < 2; ask++) {
                for (int n : new int[] {0, 1, 400, 401, 600}) {
                    dueUpdated(connectedAndTape(n), end, ask, 1);
                }
            }
        }
    }

    @Says(promise = 8, text = "or another number.")
    private static void updateRefusesOtherNumbers() {
        for (int end = 0; end < 2; end++) {
            int who = end;
            Twins twins = new Twins(() -> connectedAndTape(3));
            for (int ask : new int[] {-1, -2, 2, 3, 255, 256, 257, Integer.MAX_VALUE, Integer.MIN_VALUE}) {
                twins.dueNone("update(" + who + ", " + ask + ")", x -> x.update(who, ask));
            }
        }
    }

    @Says(promise = 8, text = "NONE: as say(), ")
    private static void updateIsRefusedAsSay() {
        for (int ask = 0; ask < 2; ask++) {
            int asked = ask;
            for (int[] place : Bench.PLACES) {
                if (place[0] != 6) {
                    Twins twins = new Twins(() -> inAndTape(place[0], place[1]));
                    twins.dueNone("update in state " + place[0], x -> x.update(place[1], asked));
                }
            }
            for (int end = 0; end < 2; end++) {
                int who = end;
                new Twins(() -> closed(who)).dueNone("update behind its own close", x -> x.update(who, asked));
                dueUpdated(otherClosed(who), who, asked, 1);
                dueUpdated(lying(who, 30), who, asked, 31);
                dueUpdated(lying(who, 31), who, asked, 32);
                new Twins(() -> lying(who, 32)).dueNone("update at 32", x -> x.update(who, asked));
            }
        }
    }

    private static void dueClosed(Bench b, int end, int records) {
        byte[] secret = b.secretBytes(end, 0);
        int number = b.x.state(end, 5);
        Check.due("close(" + end + ")", b.x.close(end), true);
        Check.due("it has closed", b.x.state(end, 7), 1);
        Check.due("records", b.x.state(end, 3), records);
        byte[] want = Crypto.seal(secret, number, Crypto.bytes(1, 0, 21));
        Check.dueBytes("ALERT 1, 0", b.writtenRecord(end, records - 1), want);
    }

    @Says(promise = 9, text = "False: it isn't CONNECTED, ")
    private static void closeIsForConnected() {
        for (int[] place : Bench.PLACES) {
            if (place[0] != 6) {
                Twins twins = new Twins(() -> inAndTape(place[0], place[1]));
                twins.dueFalse("close in state " + place[0], x -> x.close(place[1]));
            } else {
                dueClosed(inAndTape(6, place[1]), place[1], 1);
            }
        }
    }

    @Says(promise = 9, text = "has closed, ")
    private static void closeIsOnce() {
        for (int end = 0; end < 2; end++) {
            int who = end;
            new Twins(() -> closed(who)).dueFalse("close again", x -> x.close(who));
            dueClosed(closed(1 - who), who, 1);
            dueClosed(otherClosed(who), who, 1);
        }
    }

    @Says(promise = 9, text = "or 32 lie there.")
    private static void closeStopsAtThirtyTwo() {
        for (int end = 0; end < 2; end++) {
            int who = end;
            dueClosed(lying(who, 30), who, 31);
            dueClosed(lying(who, 31), who, 32);
            new Twins(() -> lying(who, 32)).dueFalse("close at 32", x -> x.close(who));
        }
    }

    /** So many bytes are given to END 1, in records of at most 400. */
    private static Bench given(int n) {
        Bench b = Bench.connected();
        for (int at = 0; at < n; at += 400) {
            b.sayBytes(0, Bench.row(Math.min(400, n - at), at));
            Check.due("read", b.x.carry(0, 1), 6);
        }
        return b;
    }

    @Says(promise = 15, text = "NONE if there is none such.")
    private static void givenHasNoneBehindTheLast() {
        for (int n : new int[] {0, 1, 2, 400, 401}) {
            Twins twins = new Twins(() -> given(n));
            for (int i : new int[] {n, n + 1, 2000, -1, -2, Integer.MAX_VALUE, Integer.MIN_VALUE}) {
                twins.dueNone("given(1, " + i + ") of " + n, x -> x.given(1, i));
            }
            for (int i : new int[] {0, n - 1}) {
                if (i >= 0 && i < n) {
                    twins.dueUnchanged("given(1, " + i + ") of " + n, x -> x.given(1, i), i & 255);
                }
            }
            for (int end : Bench.NO_ENDS) {
                Check.due("given(" + end + ", 0)", given(n).x.given(end, 0), NONE);
            }
            Check.due("the sayer is given nothing", given(n).x.given(0, 0), NONE);
        }
    }

    @Says(promise = {10, 15, 17}, part = "III", text = "Given: up to 2,000 bytes; more are lost.")
    private static void givenHasAnEnd() {
        for (int n : new int[] {1999, 2000, 2001, 2002, 2400}) {
            Bench b = given(n);
            int due = Math.min(n, 2000);
            Check.due("bytes given of " + n, b.x.state(1, 4), due);
            Check.due("the first of " + n, b.x.given(1, 0), 0);
            Check.due("the last of " + n, b.x.given(1, due - 1), due - 1 & 255);
            Check.due("behind the last of " + n, b.x.given(1, due), NONE);
            Check.due("it is CONNECTED", b.x.state(1, 0), 6);
            Check.due("every record counts", b.x.state(1, 6), (n + 399) / 400);
        }
        int[] lengths = {400, 400, 400, 400, 390, 20, 5};
        int[] due = {400, 800, 1200, 1600, 1990, 2000, 2000};
        Bench b = Bench.connected();
        for (int i = 0; i < lengths.length; i++) {
            b.sayBytes(0, Bench.row(lengths[i], 10 * i));
            Check.due("read", b.x.carry(0, 1), 6);
            Check.due("bytes given", b.x.state(1, 4), due[i]);
        }
        Check.due("the last before", b.x.given(1, 1989), (40 + 389) & 255);
        Check.due("the first of a part", b.x.given(1, 1990), 50);
        Check.due("the last that is given", b.x.given(1, 1999), 59);
        Check.due("more are lost", b.x.given(1, 2000), NONE);
    }
}
