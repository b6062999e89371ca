/**
 * Ends of connections by TLS 1.3 with secrets that both know beforehand, and a
 * carrier between them that may lose, change, double and swap what it carries.
 */
public final class SecretEnds {
    public static final int NONE = -1;

    private static final int MOST_ENDS = 4;
    private static final int MOST_TAPE = 600;
    private static final int FEED = 20;
    private static final int MOST_SAID = 400;
    private static final int MOST_SECRET = 64;
    private static final int MOST_NAME = 16;
    private static final int HASH = 32;

    private final Row tape;
    private final End[] ends;
    private final Tools tools;
    private int endCount;

    public SecretEnds() {
        tape = new Row(MOST_TAPE);
        tools = new Tools();
        // Room for all four is made here, and make() gives it out: so no call makes an object.
        ends = new End[MOST_ENDS];
        for (int i = 0; i < MOST_ENDS; i++) {
            ends[i] = new End(tools);
        }
        endCount = 0;
    }

    public int feed(int a, int b, int c, int d, int e) {
        if (tape.count + FEED > MOST_TAPE) {
            return NONE;
        }
        tape.putNumber(a, 4);
        tape.putNumber(b, 4);
        tape.putNumber(c, 4);
        tape.putNumber(d, 4);
        tape.putNumber(e, 4);
        return tape.count;
    }

    public int end(int n) {
        if (n < 0 || n > tape.count) {
            return NONE;
        }
        tape.cut(n);
        return n;
    }

    public int make(boolean server) {
        if (endCount >= MOST_ENDS) {
            return NONE;
        }
        ends[endCount].server = server;
        endCount++;
        return endCount - 1;
    }

    public boolean tell(int end, int what) {
        End one = find(end);
        if (one == null || !one.learn(what, tape)) {
            return false;
        }
        tape.clear();
        return true;
    }

    public boolean start(int end) {
        End one = find(end);
        return one != null && one.begin();
    }

    public int say(int end) {
        End one = find(end);
        if (one == null || tape.count < 1 || tape.count > MOST_SAID || !one.speak(tape)) {
            return NONE;
        }
        tape.clear();
        return one.pile.count;
    }

    public int update(int end, int ask) {
        End one = find(end);
        if (one == null || ask < 0 || ask > 1 || !one.renew(ask)) {
            return NONE;
        }
        return one.pile.count;
    }

    public boolean close(int end) {
        End one = find(end);
        return one != null && one.shut();
    }

    public int carry(int from, int to) {
        End writer = find(from);
        End reader = find(to);
        if (writer == null || reader == null || writer.pile.count == 0) {
            return NONE;
        }
        // Taken off before it is read: an END that reads its own record has room for an alert.
        tools.incoming.copy(writer.pile.first());
        writer.pile.drop();
        reader.read(tools.incoming);
        return reader.state;
    }

    public int give(int end) {
        End reader = find(end);
        if (reader == null) {
            return NONE;
        }
        tools.incoming.copy(tape);
        tape.clear();
        reader.read(tools.incoming);
        return reader.state;
    }

    public boolean meddle(int end, int what) {
        End one = find(end);
        if (one == null) {
            return false;
        }
        switch (what) {
            case 0:
                return one.pile.drop();
            case 1:
                return one.pile.twice();
            case 2:
                return one.pile.swap();
            default:
                return false;
        }
    }

    public boolean alter(int end, int i, int mask) {
        End one = find(end);
        if (one == null || one.pile.count == 0 || mask < 0 || mask > 255) {
            return false;
        }
        return one.pile.first().flip(i, mask);
    }

    public int written(int end, int k, int i) {
        End one = find(end);
        return one == null ? NONE : one.pile.byteOf(k, i);
    }

    public int given(int end, int i) {
        End one = find(end);
        return one == null ? NONE : one.gotten.at(i);
    }

    public int secret(int end, int what, int i) {
        End one = find(end);
        if (one == null || what < 0 || what > 1) {
            return NONE;
        }
        Keys keys = what == 0 ? one.writes : one.reads;
        return keys.held ? keys.secret.at(i) : NONE;
    }

    public int state(int end, int what) {
        End one = find(end);
        return one == null ? NONE : one.report(what);
    }

    public int hash(int i) {
        if (i < 0 || i >= HASH) {
            return NONE;
        }
        tools.sha.digest(tape, tools.digest);
        return tools.digest.at(i);
    }

    public int about(int what) {
        switch (what) {
            case 0:
                return tape.count;
            case 1:
                return endCount;
            default:
                return NONE;
        }
    }

    private End find(int n) {
        return n >= 0 && n < endCount && n < ends.length ? ends[n] : null;
    }

    /** Bytes one behind the other, in a room that is made once; what finds no room is lost. */
    private static final class Row {
        final int[] bytes;
        int count;

        Row(int room) {
            bytes = new int[Math.max(room, 0)];
            count = 0;
        }

        void clear() {
            count = 0;
        }

        void cut(int n) {
            if (n >= 0 && n < count) {
                count = n;
            }
        }

        int at(int i) {
            return i >= 0 && i < count ? bytes[i] : NONE;
        }

        int twoAt(int i) {
            return i >= 0 && i < count - 1 ? (bytes[i] << 8) | bytes[i + 1] : NONE;
        }

        /** Four bytes as a number, the lowest first. */
        int fourLowFirst(int i) {
            if (i < 0 || i >= count - 3) {
                return 0;
            }
            return bytes[i] | (bytes[i + 1] << 8) | (bytes[i + 2] << 16) | (bytes[i + 3] << 24);
        }

        boolean flip(int i, int mask) {
            if (i < 0 || i >= count) {
                return false;
            }
            bytes[i] ^= mask;
            return true;
        }

        void put(int b) {
            if (count < bytes.length) {
                bytes[count] = b & 255;
                count++;
            }
        }

        /** Up to four bytes, the highest first. */
        void putNumber(int value, int size) {
            for (int i = size - 1; i >= 0 && count < bytes.length; i--) {
                bytes[count] = (value >>> (8 * i)) & 255;
                count++;
            }
        }

        void putLowFirst(int value, int size) {
            for (int i = 0; i < size && count < bytes.length; i++) {
                bytes[count] = i < 4 ? (value >>> (8 * i)) & 255 : 0;
                count++;
            }
        }

        void fillUp(int block) {
            while (block > 0 && count % block != 0 && count < bytes.length) {
                bytes[count] = 0;
                count++;
            }
        }

        void putAll(int[] more) {
            for (int i = 0; i < more.length; i++) {
                put(more[i]);
            }
        }

        void putText(String text) {
            for (int i = 0; i < text.length(); i++) {
                put(text.charAt(i));
            }
        }

        void append(Row other) {
            appendPart(other, 0, other.count);
        }

        void appendPart(Row other, int from, int to) {
            for (int i = from; i >= 0 && i < to && i < other.count && count < bytes.length; i++) {
                bytes[count] = other.bytes[i];
                count++;
            }
        }

        void copy(Row other) {
            count = 0;
            appendPart(other, 0, other.count);
        }

        void copyPart(Row other, int from, int to) {
            count = 0;
            appendPart(other, from, to);
        }

        boolean same(Row other) {
            return count == other.count && hasAt(0, other);
        }

        boolean hasAt(int place, Row other) {
            if (place < 0 || place > count - other.count) {
                return false;
            }
            for (int i = 0; i < other.count; i++) {
                if (bytes[place + i] != other.bytes[i]) {
                    return false;
                }
            }
            return true;
        }
    }

    /** The records that an END has written and that lie there. */
    private static final class Pile {
        private static final int MOST = 32;
        // What is said is longer than every message: 5 ahead, 400, the inner type, 16 of the seal.
        private static final int ROOM = 5 + MOST_SAID + 1 + 16;

        private final Row[] rows;
        int count;

        Pile() {
            rows = new Row[MOST];
            for (int i = 0; i < MOST; i++) {
                rows[i] = new Row(ROOM);
            }
            count = 0;
        }

        boolean isFull() {
            return count >= MOST;
        }

        /** A record only where one lies there: the caller looks at the count. */
        Row first() {
            return rows[0];
        }

        int byteOf(int k, int i) {
            return k >= 0 && k < count ? rows[k].at(i) : NONE;
        }

        /** An empty row behind the others, or null where there is no room. */
        Row add() {
            if (isFull()) {
                return null;
            }
            Row row = rows[count];
            row.clear();
            count++;
            return row;
        }

        boolean drop() {
            if (count == 0) {
                return false;
            }
            Row free = rows[0];
            for (int i = 1; i < count; i++) {
                rows[i - 1] = rows[i];
            }
            count--;
            rows[count] = free;
            return true;
        }

        boolean twice() {
            if (count == 0 || isFull()) {
                return false;
            }
            Row second = rows[count];
            for (int i = count; i > 1; i--) {
                rows[i] = rows[i - 1];
            }
            rows[1] = second;
            second.copy(rows[0]);
            count++;
            return true;
        }

        boolean swap() {
            if (count < 2) {
                return false;
            }
            Row front = rows[0];
            rows[0] = rows[1];
            rows[1] = front;
            return true;
        }
    }

    /** What all ENDS of one object share, so that no call makes rows of its own. */
    private static final class Tools {
        final Sha sha;
        final Kdf kdf;
        final Sealer sealer;
        final Row incoming;
        final Row content;
        final Row outgoing;
        final Row expected;
        final Row digest;
        final Row proof;
        final Row theirRandom;
        final Row theirName;

        Tools() {
            sha = new Sha();
            kdf = new Kdf(sha);
            sealer = new Sealer();
            incoming = new Row(MOST_TAPE);
            content = new Row(MOST_TAPE);
            outgoing = new Row(Messages.LONGEST);
            expected = new Row(Messages.LONGEST);
            digest = new Row(HASH);
            proof = new Row(HASH);
            theirRandom = new Row(Messages.RANDOM);
            theirName = new Row(MOST_NAME);
        }
    }

    /** SHA-256. */
    private static final class Sha {
        static final int BLOCK = 64;
        private static final int[] FIRST = {
            0x6a09e667, 0xbb67ae85, 0x3c6ef372, 0xa54ff53a,
            0x510e527f, 0x9b05688c, 0x1f83d9ab, 0x5be0cd19
        };
        private static final int[] ROUNDS = {
            0x428a2f98, 0x71374491, 0xb5c0fbcf, 0xe9b5dba5, 0x3956c25b, 0x59f111f1, 0x923f82a4, 0xab1c5ed5,
            0xd807aa98, 0x12835b01, 0x243185be, 0x550c7dc3, 0x72be5d74, 0x80deb1fe, 0x9bdc06a7, 0xc19bf174,
            0xe49b69c1, 0xefbe4786, 0x0fc19dc6, 0x240ca1cc, 0x2de92c6f, 0x4a7484aa, 0x5cb0a9dc, 0x76f988da,
            0x983e5152, 0xa831c66d, 0xb00327c8, 0xbf597fc7, 0xc6e00bf3, 0xd5a79147, 0x06ca6351, 0x14292967,
            0x27b70a85, 0x2e1b2138, 0x4d2c6dfc, 0x53380d13, 0x650a7354, 0x766a0abb, 0x81c2c92e, 0x92722c85,
            0xa2bfe8a1, 0xa81a664b, 0xc24b8b70, 0xc76c51a3, 0xd192e819, 0xd6990624, 0xf40e3585, 0x106aa070,
            0x19a4c116, 0x1e376c08, 0x2748774c, 0x34b0bcb5, 0x391c0cb3, 0x4ed8aa4a, 0x5b9cca4f, 0x682e6ff3,
            0x748f82ee, 0x78a5636f, 0x84c87814, 0x8cc70208, 0x90befffa, 0xa4506ceb, 0xbef9a3f7, 0xc67178f2
        };

        private final int[] sums;
        private final int[] words;

        Sha() {
            sums = new int[FIRST.length];
            words = new int[ROUNDS.length];
        }

        void digest(Row what, Row out) {
            for (int i = 0; i < FIRST.length; i++) {
                sums[i] = FIRST[i];
            }
            int total = (what.count + 9 + BLOCK - 1) / BLOCK * BLOCK;
            for (int at = 0; at < total; at += BLOCK) {
                load(what, at, total);
                compress();
            }
            out.clear();
            for (int i = 0; i < sums.length; i++) {
                out.putNumber(sums[i], 4);
            }
        }

        private void load(Row what, int at, int total) {
            for (int i = 0; i < 16; i++) {
                int word = 0;
                for (int j = 0; j < 4; j++) {
                    int place = at + 4 * i + j;
                    int next = place < what.count ? what.bytes[place] : place == what.count ? 0x80 : 0;
                    word = (word << 8) | next;
                }
                words[i] = word;
            }
            if (at + BLOCK == total) {
                words[15] = 8 * what.count;
            }
        }

        private void compress() {
            for (int i = 16; i < words.length; i++) {
                int x = words[i - 15];
                int y = words[i - 2];
                int low = (x >>> 7 | x << 25) ^ (x >>> 18 | x << 14) ^ (x >>> 3);
                int high = (y >>> 17 | y << 15) ^ (y >>> 19 | y << 13) ^ (y >>> 10);
                words[i] = words[i - 16] + low + words[i - 7] + high;
            }
            int a = sums[0];
            int b = sums[1];
            int c = sums[2];
            int d = sums[3];
            int e = sums[4];
            int f = sums[5];
            int g = sums[6];
            int h = sums[7];
            for (int i = 0; i < words.length; i++) {
                int late = (e >>> 6 | e << 26) ^ (e >>> 11 | e << 21) ^ (e >>> 25 | e << 7);
                int early = (a >>> 2 | a << 30) ^ (a >>> 13 | a << 19) ^ (a >>> 22 | a << 10);
                int one = h + late + ((e & f) ^ (~e & g)) + ROUNDS[i] + words[i];
                int two = early + ((a & b) ^ (a & c) ^ (b & c));
                h = g;
                g = f;
                f = e;
                e = d + one;
                d = c;
                c = b;
                b = a;
                a = one + two;
            }
            sums[0] += a;
            sums[1] += b;
            sums[2] += c;
            sums[3] += d;
            sums[4] += e;
            sums[5] += f;
            sums[6] += g;
            sums[7] += h;
        }
    }

    /** HMAC and HKDF over SHA-256. */
    private static final class Kdf {
        private static final int INNER = 0x36;
        private static final int OUTER = 0x5c;
        private static final String AHEAD = "tls13 ";
        private static final int LONGEST_LABEL = 18;
        private static final int LONGEST_INFO = 2 + 1 + LONGEST_LABEL + 1 + HASH + 1;

        final Sha sha;
        final Row nothing;
        final Row zeros;
        private final Row padded;
        private final Row inner;
        private final Row info;
        private final Row result;

        Kdf(Sha sha) {
            this.sha = sha;
            nothing = new Row(0);
            zeros = new Row(HASH);
            zeros.count = HASH;
            padded = new Row(Sha.BLOCK + MOST_SECRET);
            inner = new Row(HASH);
            info = new Row(LONGEST_INFO);
            result = new Row(HASH);
        }

        /** Every key here has 32 bytes, so none has to be hashed first; out may be the key itself. */
        void mac(Row key, Row what, Row out) {
            putKey(key, INNER);
            padded.append(what);
            sha.digest(padded, inner);
            putKey(key, OUTER);
            padded.append(inner);
            sha.digest(padded, out);
        }

        private void putKey(Row key, int mask) {
            padded.clear();
            for (int i = 0; i < Sha.BLOCK; i++) {
                padded.put((i < key.count ? key.bytes[i] : 0) ^ mask);
            }
        }

        /** HKDF-Expand-Label; n is at most 32, so one block is enough. out may be the secret itself. */
        void expand(Row secret, String label, Row context, int n, Row out) {
            info.clear();
            info.putNumber(n, 2);
            info.put(AHEAD.length() + label.length());
            info.putText(AHEAD);
            info.putText(label);
            info.put(context.count);
            info.append(context);
            info.put(1);
            mac(secret, info, result);
            out.copyPart(result, 0, n);
        }
    }

    /** What follows from the SECRET alone, and the proofs that one holds it. */
    private static final class Schedule {
        final Row binder;
        final Row hand;
        final Row main;
        private final Kdf kdf;
        private final Row key;
        private final Row hashed;

        Schedule(Kdf kdf) {
            this.kdf = kdf;
            binder = new Row(HASH);
            hand = new Row(HASH);
            main = new Row(HASH);
            key = new Row(HASH);
            hashed = new Row(HASH);
        }

        void prepare(Row secret) {
            Row early = key;
            kdf.sha.digest(kdf.nothing, hashed);
            kdf.mac(kdf.zeros, secret, early);
            kdf.expand(early, "ext binder", hashed, HASH, binder);
            kdf.expand(early, "derived", hashed, HASH, hand);
            kdf.mac(hand, kdf.zeros, hand);
            kdf.expand(hand, "derived", hashed, HASH, main);
            kdf.mac(main, kdf.zeros, main);
        }

        /** What BINDER and FINISHED are: by a secret's finished key, over the hash of messages. */
        void prove(Row secret, Row messages, Row out) {
            kdf.expand(secret, "finished", kdf.nothing, HASH, key);
            kdf.sha.digest(messages, hashed);
            kdf.mac(key, hashed, out);
        }
    }

    /** A traffic secret with what is made of it, for one direction. */
    private static final class Keys {
        private static final int NONCE = 12;

        final Row secret;
        final Row key;
        final Row nonce;
        int number;
        boolean held;

        Keys() {
            secret = new Row(HASH);
            key = new Row(HASH);
            nonce = new Row(NONCE);
            number = 0;
            held = false;
        }

        void load(Kdf kdf, Row base, String label, Row context) {
            kdf.expand(base, label, context, HASH, secret);
            kdf.expand(secret, "key", kdf.nothing, HASH, key);
            kdf.expand(secret, "iv", kdf.nothing, NONCE, nonce);
            number = 0;
            held = true;
        }
    }

    /** Poly1305, by five limbs of 26 bits. */
    private static final class Poly {
        private static final int LIMBS = 5;
        private static final int BITS = 26;
        private static final long LOW = (1L << BITS) - 1;
        private static final int BLOCK = 16;
        // 2 to the 128th behind every block, as it stands in the highest limb.
        private static final long MARK = 1L << (128 - 4 * BITS);
        private static final int[] CLAMP = {255, 255, 255, 15, 252, 255, 255, 15, 252, 255, 255, 15, 252, 255, 255, 15};

        private final long[] factor;
        private final long[] sum;
        private final long[] work;

        Poly() {
            factor = new long[LIMBS];
            sum = new long[LIMBS];
            work = new long[LIMBS];
        }

        /** The text is a whole number of blocks; the key has 32 bytes, serves once, and is changed. */
        void tag(Row key, Row text, Row out) {
            for (int i = 0; i < LIMBS; i++) {
                factor[i] = 0;
                sum[i] = 0;
            }
            for (int i = 0; i < BLOCK && i < key.count; i++) {
                key.bytes[i] &= CLAMP[i];
            }
            addBytes(key, 0, factor);
            for (int at = 0; at < text.count; at += BLOCK) {
                addBytes(text, at, sum);
                sum[LIMBS - 1] += MARK;
                multiply();
                settle(sum);
            }
            settle(sum);
            settle(sum);
            reduce();
            putSum(key, out);
        }

        private static void addBytes(Row from, int at, long[] limbs) {
            for (int i = 0; i < BLOCK && at + i < from.count; i++) {
                int limb = 8 * i / BITS;
                long value = (long) from.bytes[at + i] << (8 * i % BITS);
                if (limb < limbs.length) {
                    limbs[limb] += value & LOW;
                }
                if (limb + 1 < limbs.length) {
                    limbs[limb + 1] += value >>> BITS;
                }
            }
        }

        private void multiply() {
            for (int i = 0; i < LIMBS; i++) {
                long total = 0;
                for (int j = 0; j < LIMBS; j++) {
                    // 2 to the 130th is 5: what goes beyond the highest limb comes in again so.
                    total += j > i ? 5 * sum[j] * factor[i - j + LIMBS] : sum[j] * factor[i - j];
                }
                work[i] = total;
            }
            for (int i = 0; i < LIMBS; i++) {
                sum[i] = work[i];
            }
        }

        private static void settle(long[] limbs) {
            long over = 0;
            for (int i = 0; i < LIMBS && i < limbs.length; i++) {
                long value = limbs[i] + over;
                limbs[i] = value & LOW;
                over = value >>> BITS;
            }
            if (limbs.length > 1) {
                long lowest = limbs[0] + 5 * over;
                limbs[0] = lowest & LOW;
                limbs[1] += lowest >>> BITS;
            }
        }

        /** The one remainder below 2 to the 130th less 5. */
        private void reduce() {
            long over = 5;
            for (int i = 0; i < LIMBS; i++) {
                long value = sum[i] + over;
                work[i] = value & LOW;
                over = value >>> BITS;
            }
            for (int i = 0; i < LIMBS && over > 0; i++) {
                sum[i] = work[i];
            }
        }

        private void putSum(Row key, Row out) {
            out.clear();
            int over = 0;
            for (int i = 0; i < BLOCK && BLOCK + i < key.count; i++) {
                int limb = 8 * i / BITS;
                int shift = 8 * i % BITS;
                long value = limb < LIMBS ? sum[limb] >>> shift : 0;
                if (limb + 1 < LIMBS) {
                    value |= sum[limb + 1] << (BITS - shift);
                }
                over += (int) (value & 255) + key.bytes[BLOCK + i];
                out.put(over);
                over >>>= 8;
            }
        }
    }

    /** Records sealed by ChaCha20 with Poly1305. */
    private static final class Sealer {
        static final int SEAL = 16;
        private static final int BLOCK = 64;
        private static final int WORDS = 16;
        private static final int[] FIRST = {0x61707865, 0x3320646e, 0x79622d32, 0x6b206574};
        private static final int[] QUARTERS = {
            0, 4, 8, 12, 1, 5, 9, 13, 2, 6, 10, 14, 3, 7, 11, 15,
            0, 5, 10, 15, 1, 6, 11, 12, 2, 7, 8, 13, 3, 4, 9, 14
        };
        // The five bytes ahead, what is sealed, and the lengths, each filled up to 16.
        private static final int LONGEST_TEXT = MOST_TAPE + 4 * SEAL;

        private final Poly poly;
        private final int[] input;
        private final int[] stream;
        private final Row once;
        private final Row text;
        private final Row tag;

        Sealer() {
            poly = new Poly();
            input = new int[WORDS];
            stream = new int[WORDS];
            once = new Row(HASH);
            text = new Row(LONGEST_TEXT);
            tag = new Row(SEAL);
        }

        /** The record holds its five bytes ahead and what is to be sealed. */
        void seal(Keys keys, Row record) {
            aim(keys);
            mix(record, Messages.AHEAD);
            gather(record, record.count);
            poly.tag(once, text, tag);
            record.append(tag);
            keys.number++;
        }

        /** False where the seal is not right: nothing is changed then. */
        boolean open(Keys keys, Row record, Row content) {
            int last = record.count - SEAL;
            if (last <= Messages.AHEAD) {
                return false;
            }
            aim(keys);
            gather(record, last);
            poly.tag(once, text, tag);
            if (!record.hasAt(last, tag)) {
                return false;
            }
            content.copyPart(record, Messages.AHEAD, last);
            mix(content, 0);
            keys.number++;
            return true;
        }

        /** Sets the cipher to the next record of these keys, and makes the key of its seal. */
        private void aim(Keys keys) {
            for (int i = 0; i < FIRST.length; i++) {
                input[i] = FIRST[i];
            }
            for (int i = 0; i < 8; i++) {
                input[4 + i] = keys.key.fourLowFirst(4 * i);
            }
            input[13] = keys.nonce.fourLowFirst(0);
            input[14] = keys.nonce.fourLowFirst(4);
            // The number's highest byte comes first, but the cipher's words have the lowest first.
            input[15] = keys.nonce.fourLowFirst(8) ^ turned(keys.number);
            turnBlock(0);
            once.clear();
            for (int i = 0; i < HASH; i++) {
                once.put(stream[i / 4] >>> (8 * (i % 4)));
            }
        }

        private static int turned(int n) {
            return (n >>> 24) | ((n >>> 8) & 0xff00) | ((n << 8) & 0xff0000) | (n << 24);
        }

        private void mix(Row row, int from) {
            int block = 0;
            for (int at = from; at < row.count; at += BLOCK) {
                block++;
                turnBlock(block);
                for (int i = 0; i < BLOCK && at + i < row.count; i++) {
                    row.bytes[at + i] ^= (stream[i / 4] >>> (8 * (i % 4))) & 255;
                }
            }
        }

        private void turnBlock(int block) {
            input[12] = block;
            for (int i = 0; i < WORDS; i++) {
                stream[i] = input[i];
            }
            for (int step = 0; step < 10 * QUARTERS.length; step += 4) {
                int at = step % QUARTERS.length;
                int p = QUARTERS[at];
                int q = QUARTERS[at + 1];
                int r = QUARTERS[at + 2];
                int s = QUARTERS[at + 3];
                int a = stream[p] + stream[q];
                int d = stream[s] ^ a;
                d = (d << 16) | (d >>> 16);
                int c = stream[r] + d;
                int b = stream[q] ^ c;
                b = (b << 12) | (b >>> 20);
                a += b;
                d ^= a;
                d = (d << 8) | (d >>> 24);
                c += d;
                b ^= c;
                stream[p] = a;
                stream[q] = (b << 7) | (b >>> 25);
                stream[r] = c;
                stream[s] = d;
            }
            for (int i = 0; i < WORDS; i++) {
                stream[i] += input[i];
            }
        }

        private void gather(Row record, int last) {
            text.clear();
            text.appendPart(record, 0, Messages.AHEAD);
            text.fillUp(SEAL);
            text.appendPart(record, Messages.AHEAD, last);
            text.fillUp(SEAL);
            text.putLowFirst(Messages.AHEAD, 8);
            text.putLowFirst(last - Messages.AHEAD, 8);
        }
    }

    /** The types of records, the kinds of messages, and how they look. */
    private static final class Messages {
        static final int AHEAD = 5;
        static final int CHANGE = 20;
        static final int ALERT = 21;
        static final int HANDSHAKE = 22;
        static final int DATA = 23;

        static final int CLIENT_HELLO = 1;
        static final int SERVER_HELLO = 2;
        static final int EXTENSIONS = 8;
        static final int FINISHED = 20;
        static final int UPDATE = 24;

        static final int HEAD = 4;
        static final int RANDOM = 32;
        static final int[] BINDER_AHEAD = {0, 33, 32};

        private static final int RANDOM_AT = HEAD + 2;
        private static final int NAME_LENGTH_AT = HEAD + 62;
        private static final int NAME_AT = HEAD + 64;
        private static final int[] CLIENT_CHOICE = {0, 0, 2, 0x13, 3, 1, 0};
        private static final int[] CLIENT_EXTENSIONS = {0, 43, 0, 3, 2, 3, 4, 0, 45, 0, 2, 1, 0, 0, 41};
        private static final int[] SERVER_CHOICE = {
            0, 0x13, 3, 0, 0, 12, 0, 43, 0, 2, 3, 4, 0, 41, 0, 2, 0, 0
        };

        // How many bytes of a CLIENTHELLO stand behind each of its lengths, beside the NAME.
        private static final int NAMES_REST = 2 + 4;
        static final int BINDERS = 3 + HASH;
        private static final int KEYS_REST = 2 + NAMES_REST + BINDERS;
        private static final int EXTENSIONS_REST = 7 + 6 + 4 + KEYS_REST;
        private static final int CLIENT_REST = 2 + RANDOM + 7 + 2 + EXTENSIONS_REST;
        private static final int SERVER_BODY = 2 + RANDOM + 18;

        static final int LONGEST = HEAD + CLIENT_REST + MOST_NAME;

        private static void putHead(Row out, int kind, int length) {
            out.clear();
            out.put(kind);
            out.putNumber(length, 3);
        }

        /** The message up to where the binder's lengths stand. */
        static void putClientHello(Row out, Row random, Row name) {
            int n = name.count;
            putHead(out, CLIENT_HELLO, CLIENT_REST + n);
            out.put(3);
            out.put(3);
            out.append(random);
            out.putAll(CLIENT_CHOICE);
            out.putNumber(EXTENSIONS_REST + n, 2);
            out.putAll(CLIENT_EXTENSIONS);
            out.putNumber(KEYS_REST + n, 2);
            out.putNumber(NAMES_REST + n, 2);
            out.putNumber(n, 2);
            out.append(name);
            out.putNumber(0, 4);
        }

        static void putServerHello(Row out, Row random) {
            putHead(out, SERVER_HELLO, SERVER_BODY);
            out.put(3);
            out.put(3);
            out.append(random);
            out.putAll(SERVER_CHOICE);
        }

        static void putExtensions(Row out) {
            putHead(out, EXTENSIONS, 2);
            out.putNumber(0, 2);
        }

        static void putFinished(Row out, Row proof) {
            putHead(out, FINISHED, HASH);
            out.append(proof);
        }

        static void putUpdate(Row out, int ask) {
            putHead(out, UPDATE, 1);
            out.put(ask);
        }

        static void putAlert(Row out, int level, int what) {
            out.clear();
            out.put(level);
            out.put(what);
        }

        /** False where its NAME has a length that no NAME has. */
        static boolean findName(Row hello, Row name) {
            int n = hello.twoAt(NAME_LENGTH_AT);
            name.copyPart(hello, NAME_AT, NAME_AT + n);
            return n >= 1 && n <= MOST_NAME && hello.count == HEAD + CLIENT_REST + n;
        }

        static void findRandom(Row hello, Row random) {
            random.copyPart(hello, RANDOM_AT, RANDOM_AT + RANDOM);
        }

        static boolean isWhole(Row content) {
            return content.count >= HEAD && content.at(1) == 0 && content.twoAt(2) == content.count - HEAD;
        }
    }

    /** One END of a connection. */
    private static final class End {
        private static final int MADE = 0;
        private static final int WAITS_SERVER_HELLO = 1;
        private static final int WAITS_EXTENSIONS = 2;
        private static final int WAITS_SERVER_FINISHED = 3;
        private static final int WAITS_CLIENT_HELLO = 4;
        private static final int WAITS_CLIENT_FINISHED = 5;
        private static final int CONNECTED = 6;
        private static final int FAILED = 7;

        // What a record brings, beside the types: one that is passed over.
        private static final int NOTHING = 256;

        // What is to be done with it, beside the kinds of messages.
        private static final int PASS = 0;
        private static final int HEED = 256;
        private static final int GIVE = 257;

        // Alerts; FINE is none.
        private static final int FINE = 0;
        private static final int UNEXPECTED = 10;
        private static final int BAD_SEAL = 20;
        private static final int TOO_LONG = 22;
        private static final int ILLEGAL = 47;
        private static final int MALFORMED = 50;
        private static final int UNPROVEN = 51;
        private static final int OTHER_VERSION = 70;
        private static final int UNKNOWN_NAME = 115;

        private static final String CLIENT_HAND = "c hs traffic";
        private static final String SERVER_HAND = "s hs traffic";
        private static final String CLIENT_MAIN = "c ap traffic";
        private static final String SERVER_MAIN = "s ap traffic";
        private static final String NEXT = "traffic upd";

        private static final int MOST_PLAIN = 16384;
        private static final int MOST_SEALED = 16640;
        private static final int MOST_GIVEN = 2000;
        // Both hellos, EXTENSIONS and the server's FINISHED.
        private static final int TRANSCRIPT = 2 * Messages.LONGEST + HASH;

        final Pile pile;
        final Row gotten;
        final Keys writes;
        final Keys reads;
        boolean server;
        int state;
        private final Tools tools;
        private final Schedule schedule;
        private final Row psk;
        private final Row name;
        private final Row random;
        private final Row transcript;
        private int inside;
        private int task;
        private int alert;
        private int failedBy;
        private boolean closed;
        private boolean otherClosed;

        End(Tools tools) {
            this.tools = tools;
            pile = new Pile();
            gotten = new Row(MOST_GIVEN);
            writes = new Keys();
            reads = new Keys();
            schedule = new Schedule(tools.kdf);
            psk = new Row(MOST_SECRET);
            name = new Row(MOST_NAME);
            random = new Row(Messages.RANDOM);
            transcript = new Row(TRANSCRIPT);
            server = false;
            state = MADE;
            inside = NOTHING;
            task = PASS;
            alert = NONE;
            failedBy = NONE;
            closed = false;
            otherClosed = false;
        }

        boolean learn(int what, Row told) {
            if (state != MADE) {
                return false;
            }
            switch (what) {
                case 0:
                    return keep(psk, told, 1);
                case 1:
                    return keep(name, told, 1);
                case 2:
                    return keep(random, told, Messages.RANDOM);
                default:
                    return false;
            }
        }

        private static boolean keep(Row place, Row told, int fewest) {
            if (told.count < fewest || told.count > place.bytes.length) {
                return false;
            }
            place.copy(told);
            return true;
        }

        boolean begin() {
            if (state != MADE || psk.count == 0 || name.count == 0 || random.count == 0) {
                return false;
            }
            schedule.prepare(psk);
            if (server) {
                state = WAITS_CLIENT_HELLO;
                return true;
            }
            Row hello = tools.outgoing;
            Messages.putClientHello(hello, random, name);
            schedule.prove(schedule.binder, hello, tools.proof);
            hello.putAll(Messages.BINDER_AHEAD);
            hello.append(tools.proof);
            transcript.copy(hello);
            send(Messages.HANDSHAKE, hello);
            state = WAITS_SERVER_HELLO;
            return true;
        }

        boolean speak(Row words) {
            return state == CONNECTED && send(Messages.DATA, words);
        }

        boolean renew(int ask) {
            if (state != CONNECTED) {
                return false;
            }
            Messages.putUpdate(tools.outgoing, ask);
            if (!send(Messages.HANDSHAKE, tools.outgoing)) {
                return false;
            }
            writes.load(tools.kdf, writes.secret, NEXT, tools.kdf.nothing);
            return true;
        }

        boolean shut() {
            if (state != CONNECTED) {
                return false;
            }
            Messages.putAlert(tools.outgoing, 1, 0);
            if (!send(Messages.ALERT, tools.outgoing)) {
                return false;
            }
            closed = true;
            return true;
        }

        int report(int what) {
            switch (what) {
                case 0:
                    return state;
                case 1:
                    return alert;
                case 2:
                    return failedBy;
                case 3:
                    return pile.count;
                case 4:
                    return gotten.count;
                case 5:
                    return writes.number;
                case 6:
                    return reads.number;
                case 7:
                    return closed ? 1 : 0;
                case 8:
                    return otherClosed ? 1 : 0;
                case 9:
                    return server ? 1 : 0;
                default:
                    return NONE;
            }
        }

        void read(Row record) {
            if (state == MADE || state == FAILED || otherClosed) {
                return;
            }
            int refused = lookAtFrame(record);
            if (refused == FINE) {
                refused = unwrap(record);
            }
            if (refused == FINE) {
                refused = lookAtContent();
            }
            if (refused == FINE && !isProven()) {
                refused = UNPROVEN;
            }
            if (refused != FINE) {
                fail(refused);
                return;
            }
            switch (task) {
                case HEED:
                    heed();
                    break;
                case GIVE:
                    gotten.append(tools.content);
                    break;
                case Messages.CLIENT_HELLO:
                    answerHello();
                    break;
                case Messages.SERVER_HELLO:
                    takeServerHello();
                    break;
                case Messages.EXTENSIONS:
                    transcript.append(tools.content);
                    state = WAITS_SERVER_FINISHED;
                    break;
                case Messages.FINISHED:
                    takeFinished();
                    break;
                case Messages.UPDATE:
                    reads.load(tools.kdf, reads.secret, NEXT, tools.kdf.nothing);
                    if (isAsked() && !renew(0)) {
                        state = FAILED;
                    }
                    break;
                default:
                    break;
            }
        }

        private static int lookAtFrame(Row record) {
            if (record.count < Messages.AHEAD) {
                return MALFORMED;
            }
            int length = record.twoAt(3);
            if (length > (record.at(0) == Messages.DATA ? MOST_SEALED : MOST_PLAIN)) {
                return TOO_LONG;
            }
            if (record.count != Messages.AHEAD + length) {
                return MALFORMED;
            }
            return record.at(1) == 3 && record.at(2) == 3 ? FINE : OTHER_VERSION;
        }

        /** What the record brings, by type, without its seal. */
        private int unwrap(Row record) {
            inside = record.at(0);
            if (inside == Messages.CHANGE) {
                inside = NOTHING;
                return isHarmlessChange(record) ? FINE : UNEXPECTED;
            }
            if (reads.held != (inside == Messages.DATA)) {
                return UNEXPECTED;
            }
            if (!reads.held) {
                tools.content.copyPart(record, Messages.AHEAD, record.count);
                return FINE;
            }
            if (!tools.sealer.open(reads, record, tools.content)) {
                return BAD_SEAL;
            }
            inside = takeInnerType(tools.content);
            return inside == NONE ? UNEXPECTED : FINE;
        }

        private boolean isHarmlessChange(Row record) {
            boolean one = record.count == Messages.AHEAD + 1 && record.at(Messages.AHEAD) == 1;
            return one && state != WAITS_CLIENT_HELLO && state != CONNECTED;
        }

        /** The last byte that is not zero, taken off with the zeros behind it; NONE where all are. */
        private static int takeInnerType(Row content) {
            int last = content.count - 1;
            while (last >= 0 && content.at(last) == 0) {
                last--;
            }
            int type = content.at(last);
            content.cut(Math.max(last, 0));
            return type;
        }

        /** Sets what is to be done, if nothing is wrong. */
        private int lookAtContent() {
            task = PASS;
            switch (inside) {
                case NOTHING:
                    return FINE;
                case Messages.ALERT:
                    task = HEED;
                    return tools.content.count == 2 ? FINE : MALFORMED;
                case Messages.DATA:
                    task = GIVE;
                    return state == CONNECTED ? FINE : UNEXPECTED;
                case Messages.HANDSHAKE:
                    return lookAtMessage(tools.content);
                default:
                    return UNEXPECTED;
            }
        }

        private int lookAtMessage(Row message) {
            if (!Messages.isWhole(message)) {
                return MALFORMED;
            }
            task = message.at(0);
            if (task != waitedFor()) {
                return UNEXPECTED;
            }
            switch (task) {
                case Messages.CLIENT_HELLO:
                    return lookAtClientHello(message);
                case Messages.SERVER_HELLO:
                    Messages.findRandom(message, tools.theirRandom);
                    Messages.putServerHello(tools.expected, tools.theirRandom);
                    return message.same(tools.expected) ? FINE : ILLEGAL;
                case Messages.EXTENSIONS:
                    Messages.putExtensions(tools.expected);
                    return message.same(tools.expected) ? FINE : ILLEGAL;
                case Messages.FINISHED:
                    return message.count == Messages.HEAD + HASH ? FINE : MALFORMED;
                default:
                    return lookAtUpdate(message);
            }
        }

        private int waitedFor() {
            switch (state) {
                case WAITS_SERVER_HELLO:
                    return Messages.SERVER_HELLO;
                case WAITS_EXTENSIONS:
                    return Messages.EXTENSIONS;
                case WAITS_CLIENT_HELLO:
                    return Messages.CLIENT_HELLO;
                case CONNECTED:
                    return Messages.UPDATE;
                default:
                    return Messages.FINISHED;
            }
        }

        /** All that is not free in it must be as this program would write it around its RANDOM and NAME. */
        private int lookAtClientHello(Row hello) {
            if (!Messages.findName(hello, tools.theirName)) {
                return ILLEGAL;
            }
            Messages.findRandom(hello, tools.theirRandom);
            Messages.putClientHello(tools.expected, tools.theirRandom, tools.theirName);
            tools.expected.putAll(Messages.BINDER_AHEAD);
            if (!hello.hasAt(0, tools.expected)) {
                return ILLEGAL;
            }
            return name.same(tools.theirName) ? FINE : UNKNOWN_NAME;
        }

        private static int lookAtUpdate(Row message) {
            if (message.count != Messages.HEAD + 1) {
                return MALFORMED;
            }
            return message.at(Messages.HEAD) > 1 ? ILLEGAL : FINE;
        }

        /** BINDER and FINISHED are the last 32 bytes of their messages. */
        private boolean isProven() {
            Row message = tools.content;
            if (task == Messages.CLIENT_HELLO) {
                tools.expected.copyPart(message, 0, message.count - Messages.BINDERS);
                schedule.prove(schedule.binder, tools.expected, tools.proof);
            } else if (task == Messages.FINISHED) {
                schedule.prove(reads.secret, transcript, tools.proof);
            } else {
                return true;
            }
            return message.hasAt(message.count - HASH, tools.proof);
        }

        private void fail(int refused) {
            alert = refused;
            Messages.putAlert(tools.outgoing, 2, refused);
            send(Messages.ALERT, tools.outgoing);
            state = FAILED;
        }

        private void heed() {
            int what = tools.content.at(1);
            boolean closes = tools.content.at(0) == 1 && what == 0;
            otherClosed = closes;
            if (!closes || state != CONNECTED) {
                failedBy = what;
                state = FAILED;
            }
        }

        private void answerHello() {
            Row out = tools.outgoing;
            transcript.copy(tools.content);
            Messages.putServerHello(out, random);
            transcript.append(out);
            send(Messages.HANDSHAKE, out);
            tools.sha.digest(transcript, tools.digest);
            reads.load(tools.kdf, schedule.hand, CLIENT_HAND, tools.digest);
            writes.load(tools.kdf, schedule.hand, SERVER_HAND, tools.digest);
            Messages.putExtensions(out);
            transcript.append(out);
            send(Messages.HANDSHAKE, out);
            schedule.prove(writes.secret, transcript, tools.proof);
            Messages.putFinished(out, tools.proof);
            transcript.append(out);
            send(Messages.HANDSHAKE, out);
            tools.sha.digest(transcript, tools.digest);
            writes.load(tools.kdf, schedule.main, SERVER_MAIN, tools.digest);
            state = WAITS_CLIENT_FINISHED;
        }

        private void takeServerHello() {
            transcript.append(tools.content);
            tools.sha.digest(transcript, tools.digest);
            reads.load(tools.kdf, schedule.hand, SERVER_HAND, tools.digest);
            writes.load(tools.kdf, schedule.hand, CLIENT_HAND, tools.digest);
            state = WAITS_EXTENSIONS;
        }

        /** The transcript ends with the server's FINISHED: no secret is made of more. */
        private void takeFinished() {
            if (server) {
                tools.sha.digest(transcript, tools.digest);
                reads.load(tools.kdf, schedule.main, CLIENT_MAIN, tools.digest);
                state = CONNECTED;
                return;
            }
            transcript.append(tools.content);
            schedule.prove(writes.secret, transcript, tools.proof);
            Messages.putFinished(tools.outgoing, tools.proof);
            if (!send(Messages.HANDSHAKE, tools.outgoing)) {
                state = FAILED;
                return;
            }
            tools.sha.digest(transcript, tools.digest);
            reads.load(tools.kdf, schedule.main, SERVER_MAIN, tools.digest);
            writes.load(tools.kdf, schedule.main, CLIENT_MAIN, tools.digest);
            state = CONNECTED;
        }

        /** An END that has closed owes no UPDATE in turn, and does not fail for want of one. */
        private boolean isAsked() {
            return tools.content.at(Messages.HEAD) == 1 && !closed;
        }

        /** False, and nothing is written, where it has closed or 32 records lie there. */
        private boolean send(int type, Row body) {
            Row record = closed ? null : pile.add();
            if (record == null) {
                return false;
            }
            boolean sealed = writes.held;
            record.put(sealed ? Messages.DATA : type);
            record.put(3);
            record.put(3);
            record.putNumber(sealed ? body.count + 1 + Sealer.SEAL : body.count, 2);
            record.append(body);
            if (sealed) {
                record.put(type);
                tools.sealer.seal(writes, record);
            }
            return true;
        }
    }
}
