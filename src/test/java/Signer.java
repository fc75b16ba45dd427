import java.math.BigInteger;

/** Signs on secp256k1, by its definition alone. */
public final class Signer {
    public static final BigInteger P = BigInteger.ONE.shiftLeft(256).subtract(BigInteger.ONE.shiftLeft(32)).subtract(BigInteger.valueOf(977));
    public static final BigInteger N = new BigInteger("FFFFFFFFFFFFFFFFFFFFFFFFFFFFFFFEBAAEDCE6AF48A03BBFD25E8CD0364141", 16);
    private static final BigInteger GX = new BigInteger("79BE667EF9DCBBAC55A06295CE870B07029BFCDB2DCE28D959F2815B16F81798", 16);
    private static final BigInteger GY = new BigInteger("483ADA7726A3C4655DA4FBFC0E1108A8FD17B448A68554199C47D08FFB10D4B8", 16);
    public static final BigInteger[] G = {GX, GY};
    private static final BigInteger TWO = BigInteger.TWO;

    public final BigInteger secret;
    public final BigInteger[] point;

    public Signer(long secret) {
        this(BigInteger.valueOf(secret));
    }

    public Signer(BigInteger secret) {
        this.secret = secret.mod(N);
        point = times(secret, G);
    }

    public static BigInteger[] sum(BigInteger[] a, BigInteger[] b) {
        if (a == null || b == null) {
            return a == null ? b : a;
        }
        BigInteger slope;
        if (a[0].equals(b[0])) {
            if (a[1].add(b[1]).mod(P).signum() == 0) {
                return null;
            }
            slope = a[0].multiply(a[0]).multiply(BigInteger.valueOf(3)).multiply(a[1].multiply(TWO).modInverse(P)).mod(P);
        } else {
            slope = b[1].subtract(a[1]).multiply(b[0].subtract(a[0]).modInverse(P)).mod(P);
        }
        BigInteger x = slope.multiply(slope).subtract(a[0]).subtract(b[0]).mod(P);
        return new BigInteger[] {x, slope.multiply(a[0].subtract(x)).subtract(a[1]).mod(P)};
    }

    public static BigInteger[] times(BigInteger k, BigInteger[] point) {
        BigInteger[] sum = null;
        for (int bit = k.mod(N).bitLength() - 1; bit >= 0; bit--) {
            sum = sum(sum, sum);
            if (k.mod(N).testBit(bit)) {
                sum = sum(sum, point);
            }
        }
        return sum;
    }

    /** A point with this x, or null. */
    public static BigInteger[] lifted(BigInteger x) {
        BigInteger square = x.pow(3).add(BigInteger.valueOf(7)).mod(P);
        BigInteger y = square.modPow(P.add(BigInteger.ONE).shiftRight(2), P);
        return y.multiply(y).mod(P).equals(square) ? new BigInteger[] {x, y} : null;
    }

    public static byte[] bytes(BigInteger number, int size) {
        byte[] raw = number.toByteArray();
        byte[] all = new byte[size];
        for (int i = 0; i < size && i < raw.length; i++) {
            all[size - 1 - i] = raw[raw.length - 1 - i];
        }
        return all;
    }

    public static byte[] shortKey(BigInteger[] point) {
        return Bytes.join(Bytes.of(point[1].testBit(0) ? 3 : 2), bytes(point[0], 32));
    }

    public static byte[] longKey(BigInteger[] point) {
        return Bytes.join(Bytes.of(4), bytes(point[0], 32), bytes(point[1], 32));
    }

    public byte[] shortKey() {
        return shortKey(point);
    }

    public byte[] longKey() {
        return longKey(point);
    }

    /** r and s of a message, with the nonce k. */
    public BigInteger[] numbers(byte[] message, BigInteger k) {
        BigInteger r = times(k, G)[0].mod(N);
        BigInteger s = k.modInverse(N).multiply(new BigInteger(1, message).add(r.multiply(secret))).mod(N);
        return new BigInteger[] {r, s};
    }

    public byte[] sig(byte[] message) {
        BigInteger[] both = numbers(message, new BigInteger(1, Bytes.sha(message)).mod(N));
        return sig(both[0], both[1]);
    }

    public static byte[] sig(BigInteger r, BigInteger s) {
        return sig(r.toByteArray(), s.toByteArray());
    }

    public static byte[] sig(byte[] r, byte[] s) {
        return Bytes.join(Bytes.of(0x30, r.length + s.length + 4, 2, r.length), r, Bytes.of(2, s.length), s, Bytes.of(1));
    }

    public static byte[] pushed(byte[] bytes) {
        return bytes.length < 76 ? Bytes.join(Bytes.of(bytes.length), bytes) : Bytes.join(Bytes.of(76, bytes.length), bytes);
    }
}
