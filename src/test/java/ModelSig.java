import java.math.BigInteger;
import java.util.Arrays;

/** The document's SIG read a second time: ECDSA by its definition, on the sums of Signer. */
public final class ModelSig {
    private ModelSig() {
    }

    public static boolean holds(byte[] hash, byte[] key, byte[] sig) {
        BigInteger[] both = numbers(sig);
        BigInteger[] point = point(key);
        if (both == null || point == null) {
            return false;
        }
        BigInteger r = both[0];
        BigInteger s = both[1];
        if (r.signum() <= 0 || s.signum() <= 0 || r.compareTo(Signer.N) >= 0 || s.compareTo(Signer.N) >= 0) {
            return false;
        }
        BigInteger inverse = s.modInverse(Signer.N);
        BigInteger ofBase = new BigInteger(1, hash).multiply(inverse).mod(Signer.N);
        BigInteger[] sum = Signer.sum(Signer.times(ofBase, Signer.G), Signer.times(r.multiply(inverse).mod(Signer.N), point));
        return sum != null && sum[0].mod(Signer.N).equals(r);
    }

    /** r and s, if writing them by DER's rules and ALL behind gives the same bytes again. */
    private static BigInteger[] numbers(byte[] sig) {
        if (sig.length < 9 || sig.length > 73 || sig[3] < 1 || sig[3] + 7 >= sig.length) {
            return null;
        }
        int behind = 4 + sig[3];
        BigInteger r = new BigInteger(Arrays.copyOfRange(sig, 4, behind));
        BigInteger s = new BigInteger(Arrays.copyOfRange(sig, behind + 2, sig.length - 1));
        boolean isSame = r.signum() >= 0 && s.signum() >= 0 && Arrays.equals(sig, Signer.sig(r, s));
        return isSame ? new BigInteger[] {r, s} : null;
    }

    private static BigInteger[] point(byte[] key) {
        boolean isShort = key.length == 33 && (key[0] == 2 || key[0] == 3);
        boolean isLong = key.length == 65 && key[0] == 4;
        if (!isShort && !isLong) {
            return null;
        }
        BigInteger x = new BigInteger(1, Arrays.copyOfRange(key, 1, 33));
        if (x.compareTo(Signer.P) >= 0) {
            return null;
        }
        BigInteger[] point = Signer.lifted(x);
        if (point == null) {
            return null;
        }
        BigInteger minus = Signer.P.subtract(point[1]);
        if (isShort) {
            return new BigInteger[] {x, point[1].testBit(0) == (key[0] == 3) ? point[1] : minus};
        }
        BigInteger y = new BigInteger(1, Arrays.copyOfRange(key, 33, 65));
        return y.equals(point[1]) || y.equals(minus) ? new BigInteger[] {x, y} : null;
    }
}
