import java.util.ArrayList;
import java.util.Arrays;
import java.util.List;

/** The document once more, by Java's own library and in another form, for random runs beside the program. */
final class Model {
    static final int NONE = -1;

    /** A traffic secret and the number of its next record; null before there is one. */
    static final class Traffic {
        final byte[] secret;
        int number = 0;

        Traffic(byte[] secret) {
            this.secret = secret;
        }
    }

    static final class Side {
        final boolean server;
        final byte[][] told = new byte[3][];
        final List<byte[]> lying = new ArrayList<>();
        byte[] given = Crypto.NOTHING;
        byte[] log = Crypto.NOTHING;
        int state = 0;
        int alert = NONE;
        int failedBy = NONE;
        boolean closed = false;
        boolean otherClosed = false;
        Traffic out = null;
        Traffic in = null;

        Side(boolean server) {
            this.server = server;
        }

        byte[] traffic(boolean main, boolean ofServer) {
            byte[] base = main ? Crypto.main(told[0]) : Crypto.hand(told[0]);
            return Crypto.expand(base, (ofServer ? "s " : "c ") + (main ? "ap" : "hs") + " traffic", Crypto.sha(log));
        }
    }

    byte[] tape = Crypto.NOTHING;
    final List<Side> sides = new ArrayList<>();

    private Side side(int n) {
        return n >= 0 && n < sides.size() ? sides.get(n) : null;
    }

    int feed(int... words) {
        if (tape.length > 580) {
            return NONE;
        }
        for (int w : words) {
            tape = Crypto.join(tape, Crypto.bytes(w >> 24, w >> 16, w >> 8, w));
        }
        return tape.length;
    }

    int end(int n) {
        if (n < 0 || n > tape.length) {
            return NONE;
        }
        tape = Arrays.copyOf(tape, n);
        return n;
    }

    int make(boolean server) {
        if (sides.size() == 4) {
            return NONE;
        }
        sides.add(new Side(server));
        return sides.size() - 1;
    }

    boolean tell(int end, int what) {
        Side s = side(end);
        int[] least = {1, 1, 32};
        int[] most = {64, 16, 32};
        if (s == null || s.state != 0 || what < 0 || what > 2) {
            return false;
        }
        if (tape.length < least[what] || tape.length > most[what]) {
            return false;
        }
        s.told[what] = tape;
        tape = Crypto.NOTHING;
        return true;
    }

    boolean start(int end) {
        Side s = side(end);
        if (s == null || s.state != 0 || s.told[0] == null || s.told[1] == null || s.told[2] == null) {
            return false;
        }
        if (s.server) {
            s.state = 4;
        } else {
            s.log = Crypto.clientHello(s.told[0], s.told[1], s.told[2]);
            write(s, 22, s.log);
            s.state = 1;
        }
        return true;
    }

    private static boolean write(Side s, int type, byte[] content) {
        if (s.closed || s.lying.size() == 32) {
            return false;
        }
        if (s.out == null) {
            s.lying.add(Crypto.record(type, content));
        } else {
            s.lying.add(Crypto.seal(s.out.secret, s.out.number++, Crypto.join(content, Crypto.bytes(type))));
        }
        return true;
    }

    private Side talker(int end) {
        Side s = side(end);
        return s != null && s.state == 6 && !s.closed && s.lying.size() < 32 ? s : null;
    }

    int say(int end) {
        Side s = talker(end);
        if (s == null || tape.length < 1 || tape.length > 400) {
            return NONE;
        }
        write(s, 23, tape);
        tape = Crypto.NOTHING;
        return s.lying.size();
    }

    int update(int end, int ask) {
        Side s = talker(end);
        if (s == null || ask != 0 && ask != 1) {
            return NONE;
        }
        write(s, 22, Crypto.update(ask));
        s.out = new Traffic(Crypto.next(s.out.secret));
        return s.lying.size();
    }

    boolean close(int end) {
        Side s = talker(end);
        if (s == null) {
            return false;
        }
        write(s, 21, Crypto.bytes(1, 0));
        s.closed = true;
        return true;
    }

    int carry(int from, int to) {
        if (side(from) == null || side(to) == null || side(from).lying.isEmpty()) {
            return NONE;
        }
        read(side(to), side(from).lying.remove(0));
        return side(to).state;
    }

    int give(int end) {
        if (side(end) == null) {
            return NONE;
        }
        byte[] record = tape;
        tape = Crypto.NOTHING;
        read(side(end), record);
        return side(end).state;
    }

    boolean meddle(int end, int what) {
        Side s = side(end);
        int n = s == null ? 0 : s.lying.size();
        if (what == 0 && n >= 1) {
            s.lying.remove(0);
        } else if (what == 1 && n >= 1 && n < 32) {
            s.lying.add(1, s.lying.get(0).clone());
        } else if (what == 2 && n >= 2) {
            s.lying.add(0, s.lying.remove(1));
        } else {
            return false;
        }
        return true;
    }

    boolean alter(int end, int i, int mask) {
        Side s = side(end);
        if (written(end, 0, i) == NONE || mask < 0 || mask > 255) {
            return false;
        }
        s.lying.get(0)[i] ^= (byte) mask;
        return true;
    }

    int written(int end, int k, int i) {
        Side s = side(end);
        return s == null || k < 0 || k >= s.lying.size() ? NONE : at(s.lying.get(k), i);
    }

    private static int at(byte[] row, int i) {
        return i < 0 || i >= row.length ? NONE : row[i] & 255;
    }

    int given(int end, int i) {
        return side(end) == null ? NONE : at(side(end).given, i);
    }

    int secret(int end, int what, int i) {
        Side s = side(end);
        Traffic t = s == null || what < 0 || what > 1 ? null : what == 0 ? s.out : s.in;
        return t == null ? NONE : at(t.secret, i);
    }

    int state(int end, int what) {
        Side s = side(end);
        if (s == null || what < 0 || what > 9) {
            return NONE;
        }
        int[] all = {
            s.state, s.alert, s.failedBy, s.lying.size(), s.given.length, s.out == null ? 0 : s.out.number,
            s.in == null ? 0 : s.in.number, s.closed ? 1 : 0, s.otherClosed ? 1 : 0, s.server ? 1 : 0
        };
        return all[what];
    }

    int hash(int i) {
        return at(Crypto.sha(tape), i);
    }

    int about(int what) {
        return what == 0 ? tape.length : what == 1 ? sides.size() : NONE;
    }

    private static void read(Side s, byte[] record) {
        if (s.state == 0 || s.state == 7 || s.otherClosed) {
            return;
        }
        int alert = judge(s, record);
        if (alert != 0) {
            s.alert = alert;
            write(s, 21, Crypto.bytes(2, alert));
            s.state = 7;
        }
    }

    /** The alert, or 0; what is right is done. */
    private static int judge(Side s, byte[] record) {
        if (record.length < 5) {
            return 50;
        }
        int type = record[0] & 255;
        int length = (record[3] & 255) * 256 + (record[4] & 255);
        if (length > (type == 23 ? 16640 : 16384)) {
            return 22;
        }
        if (length != record.length - 5) {
            return 50;
        }
        if (record[1] != 3 || record[2] != 3) {
            return 70;
        }
        byte[] content = Arrays.copyOfRange(record, 5, record.length);
        if (type == 20) {
            boolean fits = s.state == 1 || s.state == 2 || s.state == 3 || s.state == 5;
            return fits && content.length == 1 && content[0] == 1 ? 0 : 10;
        }
        if (s.in == null) {
            return type == 23 ? 10 : inside(s, type, content);
        }
        if (type != 23) {
            return 10;
        }
        byte[] plain = content.length < 17 ? null : Crypto.open(s.in.secret, s.in.number, record);
        if (plain == null) {
            return 20;
        }
        s.in.number++;
        int last = plain.length - 1;
        while (last >= 0 && plain[last] == 0) {
            last--;
        }
        return last < 0 ? 10 : inside(s, plain[last] & 255, Arrays.copyOf(plain, last));
    }

    private static int inside(Side s, int type, byte[] content) {
        if (type == 21) {
            return content.length == 2 ? alerted(s, content[0] & 255, content[1] & 255) : 50;
        }
        if (type == 23) {
            if (s.state != 6) {
                return 10;
            }
            byte[] all = Crypto.join(s.given, content);
            s.given = Arrays.copyOf(all, Math.min(all.length, 2000));
            return 0;
        }
        if (type != 22) {
            return 10;
        }
        if (content.length < 4) {
            return 50;
        }
        int told = (content[1] & 255) << 16 | (content[2] & 255) << 8 | (content[3] & 255);
        if (told != content.length - 4) {
            return 50;
        }
        int[] waited = {NONE, 2, 8, 20, 1, 20, 24};
        return (content[0] & 255) == waited[s.state] ? message(s, content) : 10;
    }

    private static int alerted(Side s, int level, int what) {
        boolean closes = level == 1 && what == 0;
        if (closes) {
            s.otherClosed = true;
        }
        if (!closes || s.state != 6) {
            s.failedBy = what;
            s.state = 7;
        }
        return 0;
    }

    private static int message(Side s, byte[] m) {
        switch (s.state) {
            case 1:
                return serverHello(s, m);
            case 2:
                if (!Arrays.equals(m, Crypto.extensions())) {
                    return 47;
                }
                s.log = Crypto.join(s.log, m);
                s.state = 3;
                return 0;
            case 3:
                return finishedOfServer(s, m);
            case 4:
                return clientHello(s, m);
            case 5:
                return finishedOfClient(s, m);
            default:
                return update(s, m);
        }
    }

    private static int serverHello(Side s, byte[] m) {
        byte[] random = m.length < 38 ? new byte[32] : Arrays.copyOfRange(m, 6, 38);
        if (!Arrays.equals(m, Crypto.serverHello(random))) {
            return 47;
        }
        s.log = Crypto.join(s.log, m);
        s.out = new Traffic(s.traffic(false, false));
        s.in = new Traffic(s.traffic(false, true));
        s.state = 2;
        return 0;
    }

    private static int clientHello(Side s, byte[] m) {
        // The length decides where the NAME would end: 107 bytes stand around it.
        int n = m.length - 107;
        if (n < 1 || n > 16) {
            return 47;
        }
        byte[] name = Arrays.copyOfRange(m, 68, 68 + n);
        byte[] right = Crypto.clientHello(s.told[0], name, Arrays.copyOfRange(m, 6, 38));
        if (!Arrays.equals(m, 0, m.length - 32, right, 0, right.length - 32)) {
            return 47;
        }
        if (!Arrays.equals(name, s.told[1])) {
            return 115;
        }
        if (!Arrays.equals(m, right)) {
            return 51;
        }
        byte[] hello = Crypto.serverHello(s.told[2]);
        write(s, 22, hello);
        s.log = Crypto.join(m, hello);
        s.in = new Traffic(s.traffic(false, false));
        s.out = new Traffic(s.traffic(false, true));
        write(s, 22, Crypto.extensions());
        s.log = Crypto.join(s.log, Crypto.extensions());
        byte[] finished = Crypto.finished(s.out.secret, s.log);
        write(s, 22, finished);
        s.log = Crypto.join(s.log, finished);
        s.out = new Traffic(s.traffic(true, true));
        s.state = 5;
        return 0;
    }

    private static int finishedAlert(Side s, byte[] m) {
        if (m.length != 36) {
            return 50;
        }
        return Arrays.equals(m, Crypto.finished(s.in.secret, s.log)) ? 0 : 51;
    }

    private static int finishedOfServer(Side s, byte[] m) {
        int alert = finishedAlert(s, m);
        if (alert != 0) {
            return alert;
        }
        s.log = Crypto.join(s.log, m);
        if (!write(s, 22, Crypto.finished(s.out.secret, s.log))) {
            s.state = 7;
            return 0;
        }
        s.out = new Traffic(s.traffic(true, false));
        s.in = new Traffic(s.traffic(true, true));
        s.state = 6;
        return 0;
    }

    private static int finishedOfClient(Side s, byte[] m) {
        int alert = finishedAlert(s, m);
        if (alert != 0) {
            return alert;
        }
        s.in = new Traffic(s.traffic(true, false));
        s.state = 6;
        return 0;
    }

    private static int update(Side s, byte[] m) {
        if (m.length != 5) {
            return 50;
        }
        if ((m[4] & 255) > 1) {
            return 47;
        }
        s.in = new Traffic(Crypto.next(s.in.secret));
        if (m[4] == 0 || s.closed) {
            return 0;
        }
        if (!write(s, 22, Crypto.update(0))) {
            s.state = 7;
            return 0;
        }
        s.out = new Traffic(Crypto.next(s.out.secret));
        return 0;
    }
}
