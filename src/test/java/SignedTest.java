import java.math.BigInteger;

/** Promise 11: signatures, by keys and numbers of all kinds. */
public final class SignedTest {
    private static final Checks CHECKS = new Checks("SignedTest");
    private static final CoinKeeper KEEPER = new CoinKeeper();
    private static final BigInteger N = Signer.N;
    private static final BigInteger P = Signer.P;
    private static final byte[] MESSAGE = Bytes.sha(Bytes.of(1, 2, 3));

    public static void main(String[] args) {
        ordinary();
        smallNumbers();
        numbersOutside();
        strictness();
        keys();
        aboveTheOrder();
        nothing();
        wrongCalls();
        CHECKS.close();
    }

    private static void due(String what, boolean due, byte[] message, byte[] key, byte[] sig) {
        Bytes.row(KEEPER, Bytes.join(message, key, sig));
        CHECKS.equal(what, KEEPER.signed(key.length) ? 1 : 0, due ? 1 : 0);
        CHECKS.equal(what + ": row stays", KEEPER.count(5), 32 + key.length + sig.length);
    }

    private static BigInteger number(int i) {
        return new BigInteger(1, Bytes.sha(Bytes.of(i, i >> 8))).mod(N);
    }

    private static void ordinary() {
        for (int i = 1; i <= 40; i++) {
            Signer signer = new Signer(number(i));
            byte[] message = Bytes.sha(Bytes.of(i, 9));
            BigInteger[] both = signer.numbers(message, number(1000 + i));
            byte[] sig = Signer.sig(both[0], both[1]);
            byte[] high = Signer.sig(both[0], N.subtract(both[1]));
            due("short key " + i, true, message, signer.shortKey(), sig);
            due("long key " + i, true, message, signer.longKey(), sig);
            due("the other s " + i, true, message, signer.shortKey(), high);
            due("another message " + i, false, MESSAGE, signer.shortKey(), sig);
            due("another key " + i, false, message, new Signer(number(i + 1)).shortKey(), sig);
            due("another r " + i, false, message, signer.shortKey(), Signer.sig(both[0].add(BigInteger.ONE), both[1]));
            due("another s " + i, false, message, signer.shortKey(), Signer.sig(both[0], both[1].add(BigInteger.ONE)));
            byte[] turned = signer.shortKey();
            turned[0] ^= 1;
            due("the key's other y " + i, false, message, turned, sig);
        }
    }

    /** Small keys and nonces let the sums meet the same point twice, or its opposite. */
    private static void smallNumbers() {
        for (int secret = -17; secret <= 17; secret++) {
            if (secret == 0) {
                continue;
            }
            Signer signer = new Signer(secret);
            for (BigInteger k : new BigInteger[] {BigInteger.ONE, BigInteger.TWO, N.subtract(BigInteger.ONE),
                N.add(BigInteger.ONE).shiftRight(1), BigInteger.valueOf(33)}) {
                BigInteger[] both = signer.numbers(MESSAGE, k);
                due("secret " + secret + " nonce " + k, true, MESSAGE, signer.shortKey(), Signer.sig(both[0], both[1]));
            }
            for (int ofBase = 0; ofBase <= 34; ofBase += secret % 2 == 0 ? 1 : 3) {
                for (int ofKey : new int[] {1, 2, 3, 16, 31}) {
                    sumOf(signer, ofBase, ofKey);
                }
            }
        }
        byte[][] messages = {new byte[32], Bytes.many(255, 32), Signer.bytes(N, 32), Signer.bytes(N.subtract(BigInteger.ONE), 32),
            Signer.bytes(N.add(BigInteger.ONE), 32), Signer.bytes(BigInteger.ONE, 32)};
        for (byte[] message : messages) {
            Signer signer = new Signer(number(77));
            due("message " + Bytes.text(message), true, message, signer.longKey(), signer.sig(message));
        }
    }

    /** A message and a signature for which the sum is ofBase times the base and ofKey times the key. */
    private static void sumOf(Signer signer, int ofBase, int ofKey) {
        BigInteger[] sum = Signer.sum(Signer.times(BigInteger.valueOf(ofBase), Signer.G),
                Signer.times(BigInteger.valueOf(ofKey), signer.point));
        BigInteger r = sum == null ? BigInteger.TEN : sum[0].mod(N);
        BigInteger s = r.multiply(BigInteger.valueOf(ofKey).modInverse(N)).mod(N);
        byte[] message = Signer.bytes(s.multiply(BigInteger.valueOf(ofBase)).mod(N), 32);
        due(ofBase + " and " + ofKey + " times " + signer.secret, sum != null, message, signer.shortKey(), Signer.sig(r, s));
    }

    private static void numbersOutside() {
        Signer signer = new Signer(number(3));
        BigInteger[] both = signer.numbers(MESSAGE, number(4));
        BigInteger zero = BigInteger.ZERO;
        BigInteger wide = BigInteger.ONE.shiftLeft(256);
        for (BigInteger wrong : new BigInteger[] {zero, N, both[0].add(N), N.add(BigInteger.ONE), P, wide.subtract(BigInteger.ONE), wide,
            wide.add(both[0]), BigInteger.ONE.shiftLeft(270).add(both[0])}) {
            due("r " + wrong, false, MESSAGE, signer.shortKey(), Signer.sig(wrong, BigInteger.ONE));
            due("r " + wrong, false, MESSAGE, signer.shortKey(), Signer.sig(wrong, zero));
        }
        for (BigInteger wrong : new BigInteger[] {zero, N, N.add(BigInteger.ONE), wide.subtract(BigInteger.ONE), wide}) {
            due("s " + wrong, false, MESSAGE, signer.shortKey(), Signer.sig(both[0], wrong));
            due("s " + wrong, false, MESSAGE, signer.shortKey(), Signer.sig(BigInteger.ONE, wrong));
        }
        // A message for which s is 1, or the order less 1.
        for (BigInteger s : new BigInteger[] {BigInteger.ONE, N.subtract(BigInteger.ONE)}) {
            BigInteger k = number(8);
            BigInteger r = Signer.times(k, Signer.G)[0].mod(N);
            BigInteger e = s.multiply(k).subtract(r.multiply(signer.secret)).mod(N);
            due("s is " + s, true, Signer.bytes(e, 32), signer.shortKey(), Signer.sig(r, s));
            if (s.equals(BigInteger.ONE)) {
                due("s with a zero", false, Signer.bytes(e, 32), signer.shortKey(), Signer.sig(r.toByteArray(), Bytes.of(0, 1)));
                due("s with two zeros", false, Signer.bytes(e, 32), signer.shortKey(), Signer.sig(r.toByteArray(), Bytes.of(0, 0, 1)));
            }
        }
    }

    private static void strictness() {
        Signer signer = new Signer(number(5));
        byte[] key = signer.shortKey();
        byte[] right = signer.sig(MESSAGE);
        due("right", true, MESSAGE, key, right);
        for (int type = 0; type < 256; type++) {
            byte[] other = right.clone();
            other[other.length - 1] = (byte) type;
            due("last byte " + type, type == 1, MESSAGE, key, other);
        }
        int ofS = 4 + right[3];
        for (int place : new int[] {0, 1, 2, 3, ofS, ofS + 1}) {
            for (int bit = 0; bit < 8; bit++) {
                byte[] other = right.clone();
                other[place] ^= (byte) (1 << bit);
                due("byte " + place + " bit " + bit, false, MESSAGE, key, other);
            }
        }
        for (int length = 1; length < right.length; length++) {
            due("cut to " + length, false, MESSAGE, key, java.util.Arrays.copyOf(right, length));
        }
        due("one byte more", false, MESSAGE, key, Bytes.join(right, Bytes.of(1)));
        due("a byte more ahead of the last", false, MESSAGE, key,
                Bytes.join(java.util.Arrays.copyOf(right, right.length - 1), Bytes.of(0, 1)));
        due("80 bytes", false, MESSAGE, key, java.util.Arrays.copyOf(right, 80));
        BigInteger[] low = null;
        for (int i = 0; low == null; i++) {
            BigInteger[] both = signer.numbers(MESSAGE, number(2000 + i));
            low = both[0].bitLength() < 256 && both[1].bitLength() == 256 ? both : null;
        }
        byte[] r = low[0].toByteArray();
        byte[] s = low[1].toByteArray();
        due("a zero that s needs", true, MESSAGE, key, Signer.sig(r, s));
        due("a zero that r does not need", false, MESSAGE, key, Signer.sig(Bytes.join(Bytes.of(0), r), s));
        due("two zeros", false, MESSAGE, key, Signer.sig(r, Bytes.join(Bytes.of(0), s)));
        due("s below 0", false, MESSAGE, key, Signer.sig(r, java.util.Arrays.copyOfRange(s, 1, s.length)));
        due("r of no bytes", false, MESSAGE, key, Signer.sig(new byte[0], s));
        due("s of no bytes", false, MESSAGE, key, Signer.sig(r, new byte[0]));
        due("nothing but 1", false, MESSAGE, key, Bytes.of(1));
        due("the shortest", false, MESSAGE, key, Bytes.of(0x30, 6, 2, 1, 1, 2, 1, 1, 1));
    }

    private static void keys() {
        Signer signer = new Signer(number(6));
        byte[] sig = signer.sig(MESSAGE);
        byte[] small = signer.shortKey();
        byte[] big = signer.longKey();
        for (int first = 0; first < 256; first++) {
            byte[] other = small.clone();
            other[0] = (byte) first;
            due("short, first " + first, first == (small[0] & 255), MESSAGE, other, sig);
            other = big.clone();
            other[0] = (byte) first;
            due("long, first " + first, first == 4, MESSAGE, other, sig);
        }
        due("no key", false, MESSAGE, new byte[0], sig);
        due("32 bytes", false, MESSAGE, java.util.Arrays.copyOf(small, 32), sig);
        due("34 bytes", false, MESSAGE, java.util.Arrays.copyOf(small, 34), sig);
        due("64 bytes", false, MESSAGE, java.util.Arrays.copyOf(big, 64), sig);
        due("66 bytes", false, MESSAGE, java.util.Arrays.copyOf(big, 66), sig);
        due("100 bytes", false, MESSAGE, java.util.Arrays.copyOf(big, 100), sig);
        for (int place : new int[] {1, 32, 33, 64}) {
            byte[] other = big.clone();
            other[place] ^= 1;
            due("not on the curve, byte " + place, false, MESSAGE, other, sig);
        }
        extremeKeys();
    }

    /** Keys whose x is at the ends of the field: those of p and more are none, though they are modulo p. */
    private static void extremeKeys() {
        int seen = 0;
        for (int i = 0; i < 40; i++) {
            for (BigInteger x : new BigInteger[] {BigInteger.valueOf(i), P.subtract(BigInteger.valueOf(i + 1))}) {
                BigInteger[] point = Signer.lifted(x);
                if (point == null) {
                    due("no point has x " + x, false, MESSAGE, Bytes.join(Bytes.of(2), Signer.bytes(x, 32)), Bytes.of(0x30, 6, 2, 1, 1, 2, 1, 1, 1));
                    continue;
                }
                seen++;
                BigInteger[] sum = Signer.sum(Signer.G, point);
                BigInteger r = sum[0].mod(N);
                // The sum is once the base and once the key for s = r and the message r.
                byte[] message = Signer.bytes(r, 32);
                byte[] sig = Signer.sig(r, r);
                due("x " + x, true, message, Signer.shortKey(point), sig);
                due("long, x " + x, true, message, Signer.longKey(point), sig);
                BigInteger above = x.add(P);
                if (above.bitLength() <= 256) {
                    byte[] key = Signer.shortKey(point);
                    due("x " + x + " and p", false, message, Bytes.join(Bytes.of(key[0]), Signer.bytes(above, 32)), sig);
                    due("long, x " + x + " and p", false, message, Signer.longKey(new BigInteger[] {above, point[1]}), sig);
                }
            }
        }
        CHECKS.that("points were seen", seen > 20);
    }

    /** r is x modulo the order, and x may be the order and more. */
    private static void aboveTheOrder() {
        int seen = 0;
        for (int i = 1; i < 60; i++) {
            BigInteger[] sum = Signer.lifted(N.add(BigInteger.valueOf(i)));
            if (sum == null) {
                continue;
            }
            seen++;
            BigInteger r = BigInteger.valueOf(i);
            BigInteger s = number(i);
            // The key for which the sum is this point, of a message that is 1.
            BigInteger ofKey = r.multiply(s.modInverse(N)).mod(N);
            BigInteger[] minusBase = Signer.times(s.modInverse(N).negate().mod(N), Signer.G);
            BigInteger[] key = Signer.times(ofKey.modInverse(N), Signer.sum(sum, minusBase));
            byte[] message = Signer.bytes(BigInteger.ONE, 32);
            due("x is the order and " + i, true, message, Signer.shortKey(key), Signer.sig(r, s));
            due("r is not reduced " + i, false, message, Signer.shortKey(key), Signer.sig(r.add(N), s));
            due("another r " + i, false, message, Signer.shortKey(key), Signer.sig(r.add(BigInteger.ONE), s));
        }
        CHECKS.that("points were seen", seen > 10);
    }

    /** The sum is the point at infinity. */
    private static void nothing() {
        for (int i = 1; i < 10; i++) {
            BigInteger r = number(500 + i);
            BigInteger e = new BigInteger(1, MESSAGE);
            Signer signer = new Signer(e.negate().multiply(r.modInverse(N)).mod(N));
            due("infinity " + i, false, MESSAGE, signer.shortKey(), Signer.sig(r, number(600 + i)));
        }
    }

    private static void wrongCalls() {
        CoinKeeper keeper = new CoinKeeper();
        CHECKS.thrown("no row", IllegalArgumentException.class, () -> keeper.signed(0) ? 1 : 0);
        int[][] rows = {{32, 0, 1}, {33, 0, 0}, {112, 0, 0}, {113, 0, 1}, {65, 33, 1}, {66, 33, 0}, {145, 33, 0}, {146, 33, 1}, {132, 100, 1},
            {133, 100, 0}, {212, 100, 0}, {213, 100, 1}, {134, 101, 1}, {140, 101, 1}, {100, -1, 1}, {100, Integer.MIN_VALUE, 1},
            {100, Integer.MAX_VALUE, 1}, {3000, 33, 1}};
        for (int[] row : rows) {
            Bytes.row(keeper, Bytes.many(1, row[0]));
            String what = row[0] + " bytes, key of " + row[1];
            if (row[2] == 1) {
                CHECKS.thrown(what, IllegalArgumentException.class, () -> keeper.signed(row[1]) ? 1 : 0);
            } else {
                CHECKS.equal(what, keeper.signed(row[1]) ? 1 : 0, 0);
            }
            CHECKS.equal("row stays", keeper.count(5), row[0]);
        }
    }
}
