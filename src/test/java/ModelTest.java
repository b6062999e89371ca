import java.util.Arrays;
import java.util.Random;

/** Random runs of at most 512 calls, each answer beside the model's; all promises at once. */
public final class ModelTest {
    private static final int RUNS = 3000;
    private static final int CALLS = 512;
    private static final int[] ALERTS = {0, 10, 20, 50};
    private static final int[] KINDS = {1, 2, 8, 20, 24, 24, 24, 4};
    // Both sides of what the document bounds, and the ends of all numbers.
    private static final int[] EDGES = {
        Integer.MIN_VALUE, -256, -2, -1, 0, 1, 2, 3, 4, 5, 9, 10, 15, 16, 17, 31, 32, 33, 63, 64, 65, 255, 256, 257,
        399, 400, 401, 421, 422, 579, 580, 581, 599, 600, 601, 1999, 2000, 2001, Integer.MAX_VALUE
    };

    private final Random random;
    private final SecretEnds x = new SecretEnds();
    private final Model m = new Model();
    private final String run;
    private final int[] seen;
    private int calls = 0;

    private ModelTest(int seed, int[] seen) {
        random = new Random(seed);
        run = "seed " + seed;
        this.seen = seen;
    }

    public static void main(String[] args) {
        // How often each state and alert was met: a run that meets few proves little.
        int[] seen = new int[512];
        for (int seed = 0; seed < RUNS; seed++) {
            new ModelTest(seed, seen).go();
        }
        for (int state = 0; state < 8; state++) {
            Check.due("runs met state " + state, seen[state] > 0, true);
        }
        for (int alert : new int[] {10, 20, 22, 47, 50, 51, 70, 115}) {
            Check.due("runs met alert " + alert, seen[256 + alert] > 0, true);
        }
        Check.finish();
    }

    private void due(String call, int got, int want) {
        calls++;
        Check.due(run + ", call " + calls + ": " + call, got, want);
    }

    private void due(String call, boolean got, boolean want) {
        due(call, got ? 1 : 0, want ? 1 : 0);
    }

    private void go() {
        setUp();
        int ends = m.sides.size();
        while (calls < CALLS - 120) {
            step(random.nextInt(ends));
        }
        // What is left of the calls looks at everything that can be asked.
        for (int end = 0; end < ends; end++) {
            for (int what = -1; what <= 10; what++) {
                due("state(" + end + ", " + what + ")", x.state(end, what), m.state(end, what));
            }
            seen[m.state(end, 0)]++;
            seen[256 + Math.max(0, m.state(end, 1))]++;
        }
        while (calls < CALLS) {
            ask(random.nextInt(ends));
        }
    }

    private void setUp() {
        int ends = 2 + random.nextInt(3);
        for (int end = 0; end < ends; end++) {
            boolean server = end == 1 || end > 1 && random.nextBoolean();
            due("make", x.make(server), m.make(server));
            byte[] psk = Bench.row(random.nextInt(12) == 0 ? 64 : 20, random.nextInt(30) == 0 ? 9 : 1);
            byte[] name = Bench.row(random.nextInt(25) == 0 ? 16 : 4, random.nextInt(25) == 0 ? 98 : 97);
            tell(end, 0, psk);
            tell(end, 1, name);
            tell(end, 2, Bench.row(32, random.nextInt(256)));
            if (random.nextInt(20) != 0) {
                due("start(" + end + ")", x.start(end), m.start(end));
            }
        }
        if (random.nextInt(10) != 0) {
            for (int[] way : new int[][] {{0, 1}, {1, 0}, {1, 0}, {1, 0}, {0, 1}}) {
                if (random.nextInt(25) == 0) {
                    step(random.nextInt(2));
                }
                carry(way[0], way[1]);
            }
        }
    }

    private void tell(int end, int what, byte[] bytes) {
        put(bytes);
        due("tell(" + end + ", " + what + ")", x.tell(end, what), m.tell(end, what));
    }

    private void put(byte[] bytes) {
        due("end(0)", x.end(0), m.end(0));
        for (int at = 0; at < bytes.length; at += 20) {
            int[] w = new int[5];
            for (int i = 0; i < 20; i++) {
                w[i / 4] = w[i / 4] << 8 | (at + i < bytes.length ? bytes[at + i] & 255 : 0);
            }
            due("feed", x.feed(w[0], w[1], w[2], w[3], w[4]), m.feed(w));
        }
        due("end(" + bytes.length + ")", x.end(bytes.length), m.end(bytes.length));
    }

    private void carry(int from, int to) {
        due("carry(" + from + ", " + to + ")", x.carry(from, to), m.carry(from, to));
    }

    private void step(int end) {
        int other = random.nextInt(8) == 0 ? random.nextInt(m.sides.size()) : end ^ 1;
        int dice = random.nextInt(100);
        if (random.nextInt(15) == 0) {
            callAtEdges(random.nextInt(4) == 0 ? edge() : end);
        } else if (dice < 30) {
            carry(end, other);
        } else if (dice < 45) {
            put(Bench.row(random.nextInt(12) == 0 ? random.nextInt(420) : 1 + random.nextInt(9), random.nextInt(256)));
            due("say(" + end + ")", x.say(end), m.say(end));
        } else if (dice < 53) {
            int ask = random.nextInt(12) == 0 ? random.nextInt() : random.nextInt(2);
            due("update(" + end + ", " + ask + ")", x.update(end, ask), m.update(end, ask));
        } else if (dice < 54) {
            due("close(" + end + ")", x.close(end), m.close(end));
        } else if (dice < 56) {
            forge(end);
        } else if (dice < 62) {
            int what = random.nextInt(60) == 0 ? random.nextInt(3) : 1 + random.nextInt(8) / 7 * random.nextInt(2);
            int times = random.nextInt(12) == 0 ? 33 : 1;
            for (int i = 0; i < times; i++) {
                due("meddle(" + end + ", " + what + ")", x.meddle(end, what), m.meddle(end, what));
            }
        } else if (dice < 63) {
            int i = random.nextInt(30);
            int mask = random.nextInt(20) - 1;
            due("alter(" + end + ", " + i + ", " + mask + ")", x.alter(end, i, mask), m.alter(end, i, mask));
        } else {
            ask(end);
        }
    }

    private int edge() {
        return EDGES[random.nextInt(EDGES.length)];
    }

    /** Any call, with any arguments: none may throw, and most are refused. */
    private void callAtEdges(int end) {
        int a = edge();
        int b = edge();
        String two = "(" + end + ", " + a + ")";
        String three = "(" + end + ", " + a + ", " + b + ")";
        switch (random.nextInt(18)) {
            case 0 -> due("feed" + three, x.feed(a, b, end, a, b), m.feed(a, b, end, a, b));
            case 1 -> due("end(" + a + ")", x.end(a), m.end(a));
            case 2 -> due("make(" + (a > 9) + ")", x.make(a > 9), m.make(a > 9));
            case 3 -> due("tell" + two, x.tell(end, a), m.tell(end, a));
            case 4 -> due("start(" + end + ")", x.start(end), m.start(end));
            case 5 -> due("say(" + end + ")", x.say(end), m.say(end));
            case 6 -> due("update" + two, x.update(end, a), m.update(end, a));
            case 7 -> due("close(" + a + ")", x.close(a), m.close(a));
            case 8 -> carry(end, a);
            case 9 -> due("give(" + a + ")", x.give(a), m.give(a));
            case 10 -> due("meddle" + two, x.meddle(end, a), m.meddle(end, a));
            case 11 -> due("alter" + three, x.alter(end, a, b), m.alter(end, a, b));
            case 12 -> due("written" + three, x.written(end, a, b), m.written(end, a, b));
            case 13 -> due("given" + two, x.given(end, a), m.given(end, a));
            case 14 -> due("secret" + three, x.secret(end, a, b), m.secret(end, a, b));
            case 15 -> due("state" + two, x.state(end, a), m.state(end, a));
            case 16 -> due("hash(" + a + ")", x.hash(a), m.hash(a));
            default -> due("about(" + a + ")", x.about(a), m.about(a));
        }
    }

    private void ask(int end) {
        int i = random.nextInt(140) - 1;
        int what = random.nextInt(12) - 1;
        switch (random.nextInt(8)) {
            case 0:
                due("written(" + end + ", " + what + ", " + i + ")", x.written(end, what, i), m.written(end, what, i));
                break;
            case 1:
                due("written(" + end + ", 0, " + i + ")", x.written(end, 0, i), m.written(end, 0, i));
                break;
            case 2:
                due("given(" + end + ", " + i + ")", x.given(end, i), m.given(end, i));
                break;
            case 3:
                int which = what % 3;
                due("secret(" + end + ", " + which + ", " + i % 34 + ")", x.secret(end, which, i % 34), m.secret(end, which, i % 34));
                break;
            case 4:
                due("hash(" + i % 34 + ")", x.hash(i % 34), m.hash(i % 34));
                break;
            case 5:
                due("about(" + what % 3 + ")", x.about(what % 3), m.about(what % 3));
                break;
            default:
                due("state(" + end + ", " + what + ")", x.state(end, what), m.state(end, what));
                break;
        }
    }

    /** Gives an END a record that no END would write, often sealed rightly. */
    private void forge(int end) {
        Model.Side side = m.sides.get(end);
        byte[] content = content(side);
        int type = random.nextInt(8) == 0 ? random.nextInt(256) : 20 + random.nextInt(5);
        if (random.nextInt(3) != 0) {
            type = 22;
        }
        byte[] record = Crypto.record(type, content);
        if (side.in != null && random.nextInt(8) != 0) {
            byte[] inner = Crypto.join(content, Crypto.bytes(type), new byte[random.nextInt(3)]);
            record = Crypto.seal(side.in.secret, side.in.number, random.nextInt(20) == 0 ? new byte[random.nextInt(3)] : inner);
        }
        int spoil = random.nextInt(30);
        if (spoil < record.length && spoil < 6) {
            record[spoil] = (byte) random.nextInt(256);
        } else if (spoil == 6) {
            record = Arrays.copyOf(record, random.nextInt(record.length));
        }
        put(record);
        due("give(" + end + ")", x.give(end), m.give(end));
    }

    private byte[] content(Model.Side side) {
        int dice = random.nextInt(12);
        if (dice == 0) {
            return Crypto.bytes(1 + random.nextInt(2), ALERTS[random.nextInt(ALERTS.length)]);
        }
        if (dice == 1) {
            return Bench.row(random.nextInt(6), random.nextInt(3));
        }
        if (dice == 2) {
            return Crypto.message(KINDS[random.nextInt(KINDS.length)], new byte[random.nextInt(40)]);
        }
        byte[] right = waited(side);
        if (right.length > 4 && random.nextInt(3) != 0) {
            right[random.nextInt(right.length)] ^= (byte) (1 << random.nextInt(8));
        }
        return right;
    }

    private byte[] waited(Model.Side side) {
        byte[] random32 = Bench.row(32, random.nextInt(256));
        switch (side.state) {
            case 1:
                return Crypto.serverHello(random32);
            case 2:
                return Crypto.extensions();
            case 3:
            case 5:
                return Crypto.finished(side.in.secret, side.log);
            case 4:
                return Crypto.clientHello(side.told[0], Bench.row(random.nextInt(18), 97), random32);
            default:
                return Crypto.update(random.nextInt(3));
        }
    }
}
