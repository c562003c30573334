import java.security.GeneralSecurityException;
import java.security.MessageDigest;
import java.util.Arrays;
import javax.crypto.AEADBadTagException;
import javax.crypto.Cipher;
import javax.crypto.Mac;
import javax.crypto.spec.GCMParameterSpec;
import javax.crypto.spec.IvParameterSpec;
import javax.crypto.spec.SecretKeySpec;

/** The standards by Java's own library, to compare the module with. */
final class Reference {
    static byte[] aes(String mode, boolean seal, byte[] key, byte[] start, byte[] data) {
        try {
            Cipher cipher = Cipher.getInstance("AES/" + mode + "/NoPadding");
            int way = seal ? Cipher.ENCRYPT_MODE : Cipher.DECRYPT_MODE;
            if (start == null) {
                cipher.init(way, new SecretKeySpec(key, "AES"));
            } else {
                cipher.init(way, new SecretKeySpec(key, "AES"), new IvParameterSpec(start));
            }
            return cipher.doFinal(data);
        } catch (GeneralSecurityException e) {
            throw new AssertionError(e);
        }
    }

    /** Text and tag; or null when a text is to be opened whose tag is wrong. */
    static byte[] gcm(boolean seal, byte[] key, byte[] nonce, byte[] header, byte[] data) {
        try {
            Cipher cipher = Cipher.getInstance("AES/GCM/NoPadding");
            cipher.init(seal ? Cipher.ENCRYPT_MODE : Cipher.DECRYPT_MODE,
                    new SecretKeySpec(key, "AES"), new GCMParameterSpec(128, nonce));
            cipher.updateAAD(header);
            return cipher.doFinal(data);
        } catch (AEADBadTagException e) {
            return null;
        } catch (GeneralSecurityException e) {
            throw new AssertionError(e);
        }
    }

    static byte[] sha(byte[] data) {
        try {
            return MessageDigest.getInstance("SHA-256").digest(data);
        } catch (GeneralSecurityException e) {
            throw new AssertionError(e);
        }
    }

    static byte[] hmac(byte[] key, byte[]... parts) {
        try {
            Mac mac = Mac.getInstance("HmacSHA256");
            mac.init(new SecretKeySpec(key, "HmacSHA256"));
            for (byte[] part : parts) {
                mac.update(part);
            }
            return mac.doFinal();
        } catch (GeneralSecurityException e) {
            throw new AssertionError(e);
        }
    }

    static byte[] cmac(byte[] key, byte[] data) {
        byte[] k1 = doubled(aes("ECB", true, key, null, new byte[16]));
        byte[] k2 = doubled(k1);
        int blocks = Math.max(1, (data.length + 15) / 16);
        byte[] padded = Arrays.copyOf(data, 16 * blocks);
        boolean whole = data.length == padded.length;
        if (!whole) {
            padded[data.length] = (byte) 0x80;
        }
        for (int i = 0; i < 16; i++) {
            padded[padded.length - 16 + i] ^= whole ? k1[i] : k2[i];
        }
        byte[] sealed = aes("CBC", true, key, new byte[16], padded);
        return Arrays.copyOfRange(sealed, sealed.length - 16, sealed.length);
    }

    private static byte[] doubled(byte[] x) {
        byte[] out = new byte[16];
        for (int i = 0; i < 16; i++) {
            out[i] = (byte) (x[i] << 1 | (i < 15 ? (x[i + 1] & 255) >> 7 : 0));
        }
        if (x[0] < 0) {
            out[15] ^= 0x87;
        }
        return out;
    }

    static byte[] wrap(byte[] key, byte[] data) {
        int n = data.length / 8;
        byte[] a = new byte[8];
        Arrays.fill(a, (byte) 0xa6);
        byte[][] r = new byte[n][];
        for (int i = 0; i < n; i++) {
            r[i] = Arrays.copyOfRange(data, 8 * i, 8 * i + 8);
        }
        for (int j = 0; j < 6; j++) {
            for (int i = 0; i < n; i++) {
                byte[] b = aes("ECB", true, key, null, Check.join(a, r[i]));
                a = Arrays.copyOf(b, 8);
                a[7] ^= n * j + i + 1;
                r[i] = Arrays.copyOfRange(b, 8, 16);
            }
        }
        return Check.join(a, Check.join(r));
    }

    /** What was wrapped, or null when the check fails. */
    static byte[] unwrap(byte[] key, byte[] data) {
        int n = data.length / 8 - 1;
        byte[] a = Arrays.copyOf(data, 8);
        byte[][] r = new byte[n][];
        for (int i = 0; i < n; i++) {
            r[i] = Arrays.copyOfRange(data, 8 * i + 8, 8 * i + 16);
        }
        for (int j = 5; j >= 0; j--) {
            for (int i = n - 1; i >= 0; i--) {
                a[7] ^= n * j + i + 1;
                byte[] b = aes("ECB", false, key, null, Check.join(a, r[i]));
                a = Arrays.copyOf(b, 8);
                r[i] = Arrays.copyOfRange(b, 8, 16);
            }
        }
        for (byte b : a) {
            if (b != (byte) 0xa6) {
                return null;
            }
        }
        return Check.join(r);
    }

    static byte[] derived(byte[] key, byte[] label, int n) {
        byte[] out = new byte[0];
        for (int i = 1; out.length < n; i++) {
            out = Check.join(out, hmac(key, new byte[] {0, 0, 0, (byte) i}, label));
        }
        return Arrays.copyOf(out, n);
    }

    /** HMAC_DRBG with SHA-256. */
    static final class Drbg {
        private byte[] key = new byte[32];
        private byte[] value = new byte[32];
        int requests = 0;

        Drbg(byte[] seed) {
            Arrays.fill(value, (byte) 1);
            seed(seed);
        }

        void seed(byte[] seed) {
            update(seed);
            requests = 0;
        }

        byte[] next(int n, byte[] additional) {
            if (additional.length > 0) {
                update(additional);
            }
            byte[] out = new byte[0];
            while (out.length < n) {
                value = hmac(key, value);
                out = Check.join(out, value);
            }
            update(additional);
            requests++;
            return Arrays.copyOf(out, n);
        }

        private void update(byte[] given) {
            key = hmac(key, value, new byte[] {0}, given);
            value = hmac(key, value);
            if (given.length > 0) {
                key = hmac(key, value, new byte[] {1}, given);
                value = hmac(key, value);
            }
        }
    }
}
