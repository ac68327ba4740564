import java.math.BigInteger;
import java.security.GeneralSecurityException;
import java.security.KeyFactory;
import java.security.KeyPairGenerator;
import java.security.MessageDigest;
import java.security.PrivateKey;
import java.security.PublicKey;
import java.security.SecureRandom;
import java.security.Signature;
import java.security.spec.NamedParameterSpec;
import java.security.spec.PKCS8EncodedKeySpec;
import java.security.spec.X509EncodedKeySpec;
import java.util.Arrays;
import javax.crypto.Cipher;
import javax.crypto.KeyAgreement;
import javax.crypto.Mac;
import javax.crypto.spec.IvParameterSpec;
import javax.crypto.spec.SecretKeySpec;

/** The STANDARDS as the Java library has them: what ShellPair must equal bit for bit. */
final class Crypto {
    /** The order of the group of Ed25519. */
    static final BigInteger ORDER = BigInteger.ONE.shiftLeft(252)
            .add(new BigInteger("27742317777372353535851937790883648493"));

    private Crypto() {
    }

    static byte[] bytes(String hex) {
        byte[] b = new byte[hex.length() / 2];
        for (int i = 0; i < b.length; i++) {
            b[i] = (byte) Integer.parseInt(hex.substring(2 * i, 2 * i + 2), 16);
        }
        return b;
    }

    static byte[] join(byte[]... parts) {
        Msg m = new Msg();
        for (byte[] p : parts) {
            m.raw(p);
        }
        return m.bytes();
    }

    static byte[] sha256(byte[]... parts) {
        try {
            return MessageDigest.getInstance("SHA-256").digest(join(parts));
        } catch (GeneralSecurityException e) {
            throw new IllegalStateException(e);
        }
    }

    static byte[] hmac(byte[] key, byte[]... parts) {
        try {
            Mac mac = Mac.getInstance("HmacSHA256");
            mac.init(new SecretKeySpec(key, "HmacSHA256"));
            return mac.doFinal(join(parts));
        } catch (GeneralSecurityException e) {
            throw new IllegalStateException(e);
        }
    }

    static Cipher counterMode(byte[] key, byte[] iv) {
        try {
            Cipher c = Cipher.getInstance("AES/CTR/NoPadding");
            c.init(Cipher.ENCRYPT_MODE, new SecretKeySpec(key, "AES"), new IvParameterSpec(iv));
            return c;
        } catch (GeneralSecurityException e) {
            throw new IllegalStateException(e);
        }
    }

    static byte[] x25519(byte[] secret, byte[] point) {
        try {
            KeyFactory f = KeyFactory.getInstance("X25519");
            PrivateKey k = f.generatePrivate(new PKCS8EncodedKeySpec(
                    join(bytes("302e020100300506032b656e04220420"), secret)));
            PublicKey p = f.generatePublic(new X509EncodedKeySpec(join(bytes("302a300506032b656e032100"), point)));
            KeyAgreement a = KeyAgreement.getInstance("X25519");
            a.init(k);
            a.doPhase(p, true);
            return a.generateSecret();
        } catch (GeneralSecurityException e) {
            throw new IllegalStateException(e);
        }
    }

    static byte[] x25519Public(byte[] secret) {
        byte[] nine = new byte[32];
        nine[0] = 9;
        return x25519(secret, nine);
    }

    static byte[] edPublic(byte[] seed) {
        try {
            KeyPairGenerator g = KeyPairGenerator.getInstance("Ed25519");
            g.initialize(NamedParameterSpec.ED25519, new SecureRandom() {
                @Override
                public void nextBytes(byte[] b) {
                    System.arraycopy(seed, 0, b, 0, b.length);
                }
            });
            byte[] encoded = g.generateKeyPair().getPublic().getEncoded();
            return Arrays.copyOfRange(encoded, encoded.length - 32, encoded.length);
        } catch (GeneralSecurityException e) {
            throw new IllegalStateException(e);
        }
    }

    static byte[] edSign(byte[] seed, byte[] text) {
        try {
            Signature s = Signature.getInstance("Ed25519");
            s.initSign(KeyFactory.getInstance("Ed25519").generatePrivate(new PKCS8EncodedKeySpec(
                    join(bytes("302e020100300506032b657004220420"), seed))));
            s.update(text);
            return s.sign();
        } catch (GeneralSecurityException e) {
            throw new IllegalStateException(e);
        }
    }

    static boolean edVerify(byte[] publicKey, byte[] text, byte[] signature) {
        try {
            Signature s = Signature.getInstance("Ed25519");
            s.initVerify(KeyFactory.getInstance("Ed25519").generatePublic(new X509EncodedKeySpec(
                    join(bytes("302a300506032b6570032100"), publicKey))));
            s.update(text);
            return s.verify(signature);
        } catch (GeneralSecurityException e) {
            return false;
        }
    }

    /** The first n bytes of the CHANCE of a seed. */
    static byte[] chance(byte[] seed, int n) {
        byte[] out = new byte[0];
        for (int i = 0; out.length < n; i++) {
            out = join(out, sha256(seed, new Msg().u32(0).u32(i).bytes()));
        }
        return Arrays.copyOf(out, n);
    }

    static byte[] mpint(byte[] number) {
        byte[] b = new BigInteger(1, number).toByteArray();
        return new Msg().str(b.length == 1 && b[0] == 0 ? new byte[0] : b).bytes();
    }

    /** 32 bytes, the lowest first. */
    static byte[] little(BigInteger v) {
        byte[] b = new byte[32];
        byte[] big = v.toByteArray();
        for (int i = 0; i < 32 && i < big.length; i++) {
            b[i] = big[big.length - 1 - i];
        }
        return b;
    }
}
