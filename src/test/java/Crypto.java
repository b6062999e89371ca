import java.io.ByteArrayOutputStream;
import java.nio.ByteBuffer;
import java.nio.charset.StandardCharsets;
import java.security.GeneralSecurityException;
import java.security.MessageDigest;
import java.util.Arrays;
import javax.crypto.AEADBadTagException;
import javax.crypto.Cipher;
import javax.crypto.Mac;
import javax.crypto.spec.IvParameterSpec;
import javax.crypto.spec.SecretKeySpec;

/** The document's functions by Java's own library, so that the program's are judged by others. */
final class Crypto {
    static final byte[] ZEROS = new byte[32];
    static final byte[] NOTHING = new byte[0];

    private Crypto() {
    }

    static byte[] sha(byte[] what) {
        try {
            return MessageDigest.getInstance("SHA-256").digest(what);
        } catch (GeneralSecurityException e) {
            throw new IllegalStateException(e);
        }
    }

    static byte[] mac(byte[] key, byte[] what) {
        try {
            Mac mac = Mac.getInstance("HmacSHA256");
            mac.init(new SecretKeySpec(key, "HmacSHA256"));
            return mac.doFinal(what);
        } catch (GeneralSecurityException e) {
            throw new IllegalStateException(e);
        }
    }

    static byte[] expand(byte[] secret, String label, byte[] context, int n) {
        byte[] full = ("tls13 " + label).getBytes(StandardCharsets.US_ASCII);
        byte[] info = join(bytes(n >> 8, n & 255, full.length), full, bytes(context.length), context, bytes(1));
        return Arrays.copyOf(mac(secret, info), n);
    }

    static byte[] expand(byte[] secret, String label, byte[] context) {
        return expand(secret, label, context, 32);
    }

    static byte[] early(byte[] psk) {
        return mac(ZEROS, psk);
    }

    static byte[] hand(byte[] psk) {
        return mac(expand(early(psk), "derived", sha(NOTHING)), ZEROS);
    }

    static byte[] main(byte[] psk) {
        return mac(expand(hand(psk), "derived", sha(NOTHING)), ZEROS);
    }

    static byte[] next(byte[] secret) {
        return expand(secret, "traffic upd", NOTHING);
    }

    /** BINDER and FINISHED: HM(finished of a secret, H of messages). */
    static byte[] proof(byte[] secret, byte[] messages) {
        return mac(expand(secret, "finished", NOTHING), sha(messages));
    }

    static byte[] binder(byte[] psk, byte[] helloUpToBinders) {
        return proof(expand(early(psk), "ext binder", sha(NOTHING)), helloUpToBinders);
    }

    /** A whole record of type 23 around the inner bytes (what is in it, its inner type, zeros). */
    static byte[] seal(byte[] secret, long number, byte[] inner) {
        byte[] ahead = bytes(23, 3, 3, (inner.length + 16) >> 8, (inner.length + 16) & 255);
        try {
            return join(ahead, cipher(Cipher.ENCRYPT_MODE, secret, number, ahead).doFinal(inner));
        } catch (GeneralSecurityException e) {
            throw new IllegalStateException(e);
        }
    }

    /** What is in a record, or null where the seal is not right. */
    static byte[] open(byte[] secret, long number, byte[] record) {
        byte[] ahead = Arrays.copyOf(record, 5);
        byte[] rest = Arrays.copyOfRange(record, 5, record.length);
        try {
            return cipher(Cipher.DECRYPT_MODE, secret, number, ahead).doFinal(rest);
        } catch (AEADBadTagException e) {
            return null;
        } catch (GeneralSecurityException e) {
            throw new IllegalStateException(e);
        }
    }

    private static Cipher cipher(int mode, byte[] secret, long number, byte[] ahead) throws GeneralSecurityException {
        byte[] nonce = expand(secret, "iv", NOTHING, 12);
        byte[] count = ByteBuffer.allocate(12).putInt(0).putLong(number).array();
        for (int i = 0; i < 12; i++) {
            nonce[i] ^= count[i];
        }
        Cipher cipher = Cipher.getInstance("ChaCha20-Poly1305");
        SecretKeySpec key = new SecretKeySpec(expand(secret, "key", NOTHING), "ChaCha20");
        cipher.init(mode, key, new IvParameterSpec(nonce));
        cipher.updateAAD(ahead);
        return cipher;
    }

    static byte[] bytes(int... values) {
        byte[] all = new byte[values.length];
        for (int i = 0; i < values.length; i++) {
            all[i] = (byte) values[i];
        }
        return all;
    }

    static byte[] join(byte[]... parts) {
        ByteArrayOutputStream all = new ByteArrayOutputStream();
        for (byte[] part : parts) {
            all.write(part, 0, part.length);
        }
        return all.toByteArray();
    }

    static byte[] record(int type, byte[] content) {
        return join(bytes(type, 3, 3), two(content.length), content);
    }

    static byte[] message(int kind, byte[] body) {
        return join(bytes(kind, body.length >> 16, body.length >> 8, body.length), body);
    }

    static byte[] clientHello(byte[] psk, byte[] name, byte[] random) {
        byte[] headless = clientHelloBody(name, random);
        byte[] whole = message(1, join(headless, bytes(0, 33, 32), ZEROS));
        byte[] head = Arrays.copyOf(whole, whole.length - 35);
        return join(head, bytes(0, 33, 32), binder(psk, head));
    }

    private static byte[] clientHelloBody(byte[] name, byte[] random) {
        byte[] names = join(two(name.length), name, bytes(0, 0, 0, 0));
        byte[] known = join(two(names.length), names);
        byte[] extensions = join(bytes(0, 43, 0, 3, 2, 3, 4), bytes(0, 45, 0, 2, 1, 0),
            bytes(0, 41), two(known.length + 35), known);
        return join(bytes(3, 3), random, bytes(0), bytes(0, 2, 0x13, 3), bytes(1, 0),
            two(extensions.length + 35), extensions);
    }

    private static byte[] two(int n) {
        return bytes(n >> 8, n);
    }

    static byte[] serverHello(byte[] random) {
        return message(2, join(bytes(3, 3), random, bytes(0, 0x13, 3, 0, 0, 12, 0, 43, 0, 2, 3, 4, 0, 41, 0, 2, 0, 0)));
    }

    static byte[] extensions() {
        return message(8, bytes(0, 0));
    }

    static byte[] finished(byte[] handSecret, byte[] messages) {
        return message(20, proof(handSecret, messages));
    }

    static byte[] update(int ask) {
        return message(24, bytes(ask));
    }
}
