import java.math.BigInteger;
import java.util.Arrays;

/** Terms, 3 SCRIPTS, what a SIG is: each sentence that names an edge, and both its sides, by signed and in the scripts of a TX. */
public final class EdgeSigTest {
    private static final Checks CHECKS = new Checks("EdgeSigTest");
    private static final CoinKeeper KEEPER = new CoinKeeper();
    private static final BigInteger N = Signer.N;
    private static final BigInteger P = Signer.P;
    private static final BigInteger ONE = BigInteger.ONE;
    private static final byte[] MESSAGE = Bytes.sha(Bytes.of(5, 5));
    private static final Signer SIGNER = new Signer(new BigInteger(1, Bytes.sha(Bytes.of(1))));
    private static final long COIN = 5000000000L;

    public static void main(String[] args) {
        shortest();
        longest();
        rulesOfBip66();
        lastByte();
        keyLengths();
        firstByteOfKey();
        onTheCurve();
        fieldOfKey();
        leastNumbers();
        greatestNumbers();
        signOfNumbers();
        tooLongNumbers();
        powersOfTwo();
        sumsThatMeet();
        messageAboveOrder();
        partsThatAreSigned();
        scriptThatIsSigned();
        byteAsFour();
        falseNotFailure();
        oneThingMore();
        noTxNoSig();
        CHECKS.close();
    }

    private static boolean signed(byte[] message, byte[] key, byte[] sig) {
        return Bytes.row(KEEPER, Bytes.join(message, key, sig)).signed(key.length);
    }

    private static void due(String what, boolean due, byte[] message, byte[] key, byte[] sig) {
        CHECKS.equal(what, signed(message, key, sig) ? 1 : 0, due ? 1 : 0);
    }

    /** A key for which r and s are a signature of the message, as x of a point is r. */
    private static byte[] keyFor(byte[] message, BigInteger[] point, BigInteger s) {
        BigInteger r = point[0].mod(N);
        BigInteger e = new BigInteger(1, message);
        BigInteger[] sum = Signer.sum(Signer.times(s, point), Signer.times(e.negate().mod(N), Signer.G));
        return Signer.shortKey(Signer.times(r.modInverse(N), sum));
    }

    /** "a signature (strict DER, as BIP 66)": the shortest has 9 bytes, with the last one. */
    private static void shortest() {
        BigInteger[] point = Signer.lifted(ONE);
        byte[] key = keyFor(MESSAGE, point, ONE);
        byte[] sig = Signer.sig(ONE, ONE);
        CHECKS.equal("its bytes", sig.length, 9);
        due("9 bytes", true, MESSAGE, key, sig);
        for (int length = 1; length < 9; length++) {
            due("its first " + length, false, MESSAGE, key, Arrays.copyOf(sig, length));
            due("its first " + (length - 1) + " and 1", false, MESSAGE, key, Bytes.join(Arrays.copyOf(sig, length - 1), Bytes.of(1)));
        }
        due("8 bytes, no s", false, MESSAGE, key, Bytes.of(0x30, 5, 2, 1, 1, 2, 0, 1));
        due("8 bytes, no r", false, MESSAGE, key, Bytes.of(0x30, 5, 2, 0, 2, 1, 1, 1));
        due("6 bytes", false, MESSAGE, key, Bytes.of(0x30, 3, 2, 1, 1, 1));
    }

    /** The longest has 73 bytes, with the last one. */
    private static void longest() {
        for (int i = 0;; i++) {
            BigInteger[] both = SIGNER.numbers(MESSAGE, new BigInteger(1, Bytes.sha(Bytes.of(i, 3))).mod(N));
            if (both[0].bitLength() == 256 && both[1].bitLength() == 256) {
                byte[] sig = Signer.sig(both[0], both[1]);
                CHECKS.equal("its bytes", sig.length, 73);
                due("73 bytes", true, MESSAGE, SIGNER.shortKey(), sig);
                due("74 bytes, r with a zero more", false, MESSAGE, SIGNER.shortKey(),
                        Signer.sig(Bytes.join(Bytes.of(0), both[0].toByteArray()), both[1].toByteArray()));
                due("74 bytes, s with a zero more", false, MESSAGE, SIGNER.shortKey(),
                        Signer.sig(both[0].toByteArray(), Bytes.join(Bytes.of(0), both[1].toByteArray())));
                due("72 bytes, r below 0", false, MESSAGE, SIGNER.shortKey(),
                        Signer.sig(Signer.bytes(both[0], 32), both[1].toByteArray()));
                due("72 bytes, s below 0", false, MESSAGE, SIGNER.shortKey(),
                        Signer.sig(both[0].toByteArray(), Signer.bytes(both[1], 32)));
                due("80 bytes", false, MESSAGE, SIGNER.shortKey(), Arrays.copyOf(sig, 80));
                return;
            }
        }
    }

    /** Each rule of BIP 66, with a right one beside it. */
    private static void rulesOfBip66() {
        byte[] key = keyFor(MESSAGE, Signer.lifted(ONE), BigInteger.valueOf(127));
        byte[] next = keyFor(MESSAGE, Signer.lifted(ONE), BigInteger.valueOf(128));
        due("s 127", true, MESSAGE, key, Bytes.of(0x30, 6, 2, 1, 1, 2, 1, 127, 1));
        due("s 127 with a zero", false, MESSAGE, key, Bytes.of(0x30, 7, 2, 1, 1, 2, 2, 0, 127, 1));
        due("s 128", true, MESSAGE, next, Bytes.of(0x30, 7, 2, 1, 1, 2, 2, 0, 128, 1));
        due("s 128 without the zero", false, MESSAGE, next, Bytes.of(0x30, 6, 2, 1, 1, 2, 1, 128, 1));
        due("s 128 with two zeros", false, MESSAGE, next, Bytes.of(0x30, 8, 2, 1, 1, 2, 3, 0, 0, 128, 1));
        due("r with a zero", false, MESSAGE, key, Bytes.of(0x30, 7, 2, 2, 0, 1, 2, 1, 127, 1));
        due("not 30 first", false, MESSAGE, key, Bytes.of(0x31, 6, 2, 1, 1, 2, 1, 127, 1));
        for (int length : new int[] {0, 1, 5, 7, 8, 127, 128, 255}) {
            due("a length of " + length, false, MESSAGE, key, Bytes.of(0x30, length, 2, 1, 1, 2, 1, 127, 1));
        }
        due("a length in two bytes", false, MESSAGE, key, Bytes.of(0x30, 0x81, 6, 2, 1, 1, 2, 1, 127, 1));
        for (int type : new int[] {0, 1, 3, 4, 0x82}) {
            due("r's type " + type, false, MESSAGE, key, Bytes.of(0x30, 6, type, 1, 1, 2, 1, 127, 1));
            due("s's type " + type, false, MESSAGE, key, Bytes.of(0x30, 6, 2, 1, 1, type, 1, 127, 1));
        }
        for (int length : new int[] {0, 2, 3, 4, 5, 6, 127, 128, 255}) {
            due("r's length " + length, false, MESSAGE, key, Bytes.of(0x30, 6, 2, length, 1, 2, 1, 127, 1));
            due("s's length " + length, false, MESSAGE, key, Bytes.of(0x30, 6, 2, 1, 1, 2, length, 127, 1));
        }
        due("a byte behind s", false, MESSAGE, key, Bytes.of(0x30, 7, 2, 1, 1, 2, 1, 127, 0, 1));
        due("a byte behind s, not told", false, MESSAGE, key, Bytes.of(0x30, 6, 2, 1, 1, 2, 1, 127, 0, 1));
        due("r of 127", false, MESSAGE, key, Bytes.of(0x30, 6, 2, 1, 127, 2, 1, 127, 1));
    }

    /** "and one byte, that must be 1 (ALL)"; "(its last byte is looked at, too)" */
    private static void lastByte() {
        byte[] sig = SIGNER.sig(MESSAGE);
        for (int last = 0; last < 256; last++) {
            sig[sig.length - 1] = (byte) last;
            due("last byte " + last, last == 1, MESSAGE, SIGNER.shortKey(), sig);
        }
        sig[sig.length - 1] = 1;
        due("none", false, MESSAGE, SIGNER.shortKey(), Arrays.copyOf(sig, sig.length - 1));
        due("twice", false, MESSAGE, SIGNER.shortKey(), Bytes.join(sig, Bytes.of(1)));
    }

    /** "by a public key (33 bytes, .., or 65, ..)" */
    private static void keyLengths() {
        byte[] sig = SIGNER.sig(MESSAGE);
        for (int length = 0; length <= 100; length++) {
            due("of the short key " + length, length == 33, MESSAGE, Arrays.copyOf(SIGNER.shortKey(), length), sig);
            due("of the long key " + length, length == 65, MESSAGE, Arrays.copyOf(SIGNER.longKey(), length), sig);
        }
    }

    /** "2 or 3 first .. 4 first" */
    private static void firstByteOfKey() {
        for (int i = 1; i <= 8; i++) {
            Signer signer = new Signer(i);
            byte[] sig = signer.sig(MESSAGE);
            boolean odd = signer.point[1].testBit(0);
            for (int first = 0; first < 256; first++) {
                byte[] key = signer.shortKey();
                key[0] = (byte) first;
                due(i + ": short, first " + first, first == (odd ? 3 : 2), MESSAGE, key, sig);
                key = signer.longKey();
                key[0] = (byte) first;
                due(i + ": long, first " + first, first == 4, MESSAGE, key, sig);
            }
        }
    }

    /** "on the curve" */
    private static void onTheCurve() {
        byte[] sig = SIGNER.sig(MESSAGE);
        for (int place = 1; place < 65; place++) {
            byte[] key = SIGNER.longKey();
            key[place] ^= (byte) (1 << place % 8);
            due("another byte " + place, false, MESSAGE, key, sig);
        }
        BigInteger[] other = {SIGNER.point[0], P.subtract(SIGNER.point[1])};
        due("the other y", false, MESSAGE, Signer.longKey(other), sig);
        due("y 0", false, MESSAGE, Signer.longKey(new BigInteger[] {SIGNER.point[0], BigInteger.ZERO}), sig);
        due("0 and 0", false, MESSAGE, Signer.longKey(new BigInteger[] {BigInteger.ZERO, BigInteger.ZERO}), sig);
        due("short, 0", false, MESSAGE, Bytes.join(Bytes.of(2), new byte[32]), sig);
        int on = 0;
        for (int x = 1; x <= 30; x++) {
            BigInteger[] point = Signer.lifted(BigInteger.valueOf(x));
            byte[] small = Bytes.join(Bytes.of(2), Signer.bytes(BigInteger.valueOf(x), 32));
            if (point == null) {
                due("no point at x " + x, false, MESSAGE, small, Signer.sig(ONE, ONE));
            } else {
                on++;
                sumOfBaseAndKey("a point at x " + x, point);
            }
        }
        CHECKS.that("there were both", on > 5 && on < 25);
    }

    /** r, s and a message so that once the base and once the key are the sum. */
    private static void sumOfBaseAndKey(String what, BigInteger[] point) {
        BigInteger r = Signer.sum(Signer.G, point)[0].mod(N);
        due(what, true, Signer.bytes(r, 32), Signer.shortKey(point), Signer.sig(r, r));
        due(what + ", long", true, Signer.bytes(r, 32), Signer.longKey(point), Signer.sig(r, r));
        byte[] other = Signer.shortKey(point);
        other[0] ^= 1;
        due(what + ", the other y", false, Signer.bytes(r, 32), other, Signer.sig(r, r));
    }

    /** x and y are below p: the greatest x there is, and p and more. */
    private static void fieldOfKey() {
        BigInteger x = P;
        BigInteger[] point = null;
        while (point == null) {
            x = x.subtract(ONE);
            point = Signer.lifted(x);
        }
        sumOfBaseAndKey("the greatest x", point);
        for (int i = 0; i < 20; i++) {
            BigInteger[] low = Signer.lifted(BigInteger.valueOf(i));
            if (low != null) {
                BigInteger r = Signer.sum(Signer.G, low)[0].mod(N);
                byte[] key = Signer.shortKey(low);
                byte[] above = Bytes.join(Bytes.of(key[0]), Signer.bytes(P.add(BigInteger.valueOf(i)), 32));
                due("x " + i, true, Signer.bytes(r, 32), key, Signer.sig(r, r));
                due("x " + i + " and p", false, Signer.bytes(r, 32), above, Signer.sig(r, r));
            }
        }
        int seen = 0;
        for (int i = 1; i < 30; i++) {
            // A point whose y is i, as p is 7 modulo 9 a root of the third degree is a power.
            BigInteger cube = BigInteger.valueOf(i * i - 7).mod(P);
            BigInteger root = cube.modPow(P.add(BigInteger.TWO).divide(BigInteger.valueOf(9)), P);
            if (root.pow(3).mod(P).equals(cube)) {
                seen++;
                BigInteger y = BigInteger.valueOf(i);
                sumOfBaseAndKey("y " + i, new BigInteger[] {root, y});
                sumOfBaseAndKey("y -" + i, new BigInteger[] {root, P.subtract(y)});
                BigInteger r = Signer.sum(Signer.G, new BigInteger[] {root, y})[0].mod(N);
                due("long, y " + i, true, Signer.bytes(r, 32), Signer.longKey(new BigInteger[] {root, y}), Signer.sig(r, r));
                due("long, y " + i + " and p", false, Signer.bytes(r, 32), Signer.longKey(new BigInteger[] {root, y.add(P)}), Signer.sig(r, r));
            }
        }
        CHECKS.that("points were seen", seen > 3);
        for (BigInteger none : new BigInteger[] {P, P.add(ONE), ONE.shiftLeft(256).subtract(ONE)}) {
            due("short " + none, false, MESSAGE, Bytes.join(Bytes.of(2), Signer.bytes(none, 32)), Signer.sig(ONE, ONE));
            due("long " + none, false, MESSAGE, Signer.longKey(new BigInteger[] {none, none}), Signer.sig(ONE, ONE));
        }
    }

    /** "and so are r and s that are not 1 to the order less 1": 0 and 1. */
    private static void leastNumbers() {
        BigInteger zero = BigInteger.ZERO;
        BigInteger[] point = Signer.lifted(ONE);
        byte[] key = keyFor(MESSAGE, point, ONE);
        due("r 1, s 1", true, MESSAGE, key, Signer.sig(ONE, ONE));
        due("r 0, s 1", false, MESSAGE, key, Signer.sig(zero, ONE));
        due("r 1, s 0", false, MESSAGE, key, Signer.sig(ONE, zero));
        due("r 0, s 0", false, MESSAGE, key, Signer.sig(zero, zero));
        due("r -1, s 1", false, MESSAGE, key, Signer.sig(Bytes.of(255), Bytes.of(1)));
        due("r 1, s -1", false, MESSAGE, key, Signer.sig(Bytes.of(1), Bytes.of(255)));
        // A message and key of 0 on the base's side: the sum is what r says, r times the key.
        due("r 0 of a message 0", false, new byte[32], key, Signer.sig(zero, ONE));
        // x may be the order and more, and r is what is left.
        BigInteger[] above = null;
        BigInteger x = N;
        while (above == null) {
            x = x.add(ONE);
            above = Signer.lifted(x);
        }
        byte[] ofAbove = keyFor(MESSAGE, above, BigInteger.TWO);
        due("x above the order", true, MESSAGE, ofAbove, Signer.sig(x.subtract(N), BigInteger.TWO));
        due("x above the order, as it is", false, MESSAGE, ofAbove, Signer.sig(x, BigInteger.TWO));
    }

    /** The order less 1, and the order. */
    private static void greatestNumbers() {
        BigInteger[] point = Signer.lifted(ONE);
        BigInteger last = N.subtract(ONE);
        byte[] key = keyFor(MESSAGE, point, last);
        due("s the order less 1", true, MESSAGE, key, Signer.sig(ONE, last));
        due("s the order", false, MESSAGE, key, Signer.sig(ONE, N));
        due("s the order and 1", false, MESSAGE, keyFor(MESSAGE, point, ONE), Signer.sig(ONE, N.add(ONE)));
        due("r the order and 1", false, MESSAGE, keyFor(MESSAGE, point, ONE), Signer.sig(N.add(ONE), ONE));
        due("r the order", false, MESSAGE, keyFor(MESSAGE, point, ONE), Signer.sig(N, ONE));
        due("both the order", false, MESSAGE, key, Signer.sig(N, N));
        due("s 2^256 less 1", false, MESSAGE, key, Signer.sig(ONE, ONE.shiftLeft(256).subtract(ONE)));
        due("s 2^256", false, MESSAGE, key, Signer.sig(ONE, ONE.shiftLeft(256)));
        due("s 2^256 and 1", false, MESSAGE, keyFor(MESSAGE, point, ONE), Signer.sig(ONE, ONE.shiftLeft(256).add(ONE)));
        BigInteger r = N;
        BigInteger[] high = null;
        while (high == null) {
            r = r.subtract(ONE);
            high = Signer.lifted(r);
        }
        due("the greatest r", true, MESSAGE, keyFor(MESSAGE, high, last), Signer.sig(r, last));
        // Both halves of s are fine.
        BigInteger[] both = SIGNER.numbers(MESSAGE, BigInteger.valueOf(77));
        due("one s", true, MESSAGE, SIGNER.shortKey(), Signer.sig(both[0], both[1]));
        due("the other s", true, MESSAGE, SIGNER.shortKey(), Signer.sig(both[0], N.subtract(both[1])));
    }

    /** BIP 66: a number whose highest bit is set has a zero ahead of it, another one has none. */
    private static void signOfNumbers() {
        BigInteger half = ONE.shiftLeft(255);
        BigInteger[] point = Signer.lifted(ONE);
        BigInteger[] numbers = {half.subtract(ONE), half, half.add(ONE), N.subtract(ONE), N.subtract(ONE.shiftLeft(200)), ONE.shiftLeft(247),
            BigInteger.valueOf(127), BigInteger.valueOf(128), BigInteger.valueOf(255), BigInteger.valueOf(256), BigInteger.valueOf(32767),
            BigInteger.valueOf(32768)};
        for (BigInteger s : numbers) {
            twoWays("s", Signer.sig(ONE, s), keyFor(MESSAGE, point, s), Bytes.of(1), s, false);
        }
        for (BigInteger from : numbers) {
            BigInteger r = from;
            while (Signer.lifted(r) == null) {
                r = r.testBit(0) ? r.subtract(ONE) : r.subtract(BigInteger.TWO).add(ONE);
            }
            twoWays("r", Signer.sig(r, ONE), keyFor(MESSAGE, Signer.lifted(r), ONE), Bytes.of(1), r, true);
        }
        BigInteger r = half;
        while (Signer.lifted(r) == null) {
            r = r.add(ONE);
        }
        twoWays("r", Signer.sig(r, ONE), keyFor(MESSAGE, Signer.lifted(r), ONE), Bytes.of(1), r, true);
    }

    private static void twoWays(String what, byte[] right, byte[] key, byte[] other, BigInteger number, boolean isR) {
        byte[] bytes = number.toByteArray();
        byte[] wrong = bytes[0] == 0 ? Arrays.copyOfRange(bytes, 1, bytes.length) : Bytes.join(Bytes.of(0), bytes);
        due(what + " " + number, true, MESSAGE, key, right);
        due(what + " " + number + " in the other way", false, MESSAGE, key, isR ? Signer.sig(wrong, other) : Signer.sig(other, wrong));
    }

    /** Numbers of more than 32 bytes whose lowest ones are right. */
    private static void tooLongNumbers() {
        BigInteger[] both = null;
        for (int i = 0; both == null || both[0].bitLength() == 256 || both[1].bitLength() == 256; i++) {
            both = SIGNER.numbers(MESSAGE, new BigInteger(1, Bytes.sha(Bytes.of(i, 8))).mod(N));
        }
        byte[] key = SIGNER.shortKey();
        for (int bit : new int[] {256, 257, 260, 262, 263, 264, 270}) {
            BigInteger more = ONE.shiftLeft(bit);
            due("right", true, MESSAGE, key, Signer.sig(both[0], both[1]));
            due("r and 2^" + bit, false, MESSAGE, key, Signer.sig(both[0].add(more), both[1]));
            due("right again", true, MESSAGE, key, Signer.sig(both[0], both[1]));
            due("s and 2^" + bit, false, MESSAGE, key, Signer.sig(both[0], both[1].add(more)));
        }
        BigInteger[] point = Signer.lifted(ONE);
        byte[] small = keyFor(MESSAGE, point, BigInteger.TWO);
        for (int bit = 248; bit <= 510; bit++) {
            due("right, of few bytes", true, MESSAGE, small, Signer.sig(ONE, BigInteger.TWO));
            due("s 2 and 2^" + bit, false, MESSAGE, small, Signer.sig(ONE, BigInteger.TWO.add(ONE.shiftLeft(bit))));
            due("r 1 and 2^" + bit, false, MESSAGE, small, Signer.sig(ONE.add(ONE.shiftLeft(bit)), BigInteger.TWO));
        }
    }

    /** s of each length, of one bit alone, and of all bits below. */
    private static void powersOfTwo() {
        // As r is 1, the key is s times the point less the message times the base.
        BigInteger[] point = Signer.lifted(ONE);
        BigInteger[] opposite = {ONE, P.subtract(point[1])};
        BigInteger[] message = Signer.times(new BigInteger(1, MESSAGE).negate().mod(N), Signer.G);
        BigInteger[] times = point;
        for (int bit = 0; bit < 256; bit++) {
            BigInteger s = ONE.shiftLeft(bit);
            byte[] key = Signer.shortKey(Signer.sum(times, message));
            due("s 2^" + bit, true, MESSAGE, key, Signer.sig(ONE, s));
            if (bit > 0) {
                BigInteger below = s.subtract(ONE);
                byte[] other = Signer.shortKey(Signer.sum(Signer.sum(times, opposite), message));
                due("s 2^" + bit + " less 1", true, MESSAGE, other, Signer.sig(ONE, below));
                due("another s", false, MESSAGE, other, Signer.sig(ONE, s));
            }
            times = Signer.sum(times, times);
        }
    }

    /** Sums in which a point meets itself or its opposite: keys that are some halves and quarters of the base. */
    private static void sumsThatMeet() {
        for (int part : new int[] {2, 4}) {
            BigInteger fraction = BigInteger.valueOf(part).modInverse(N);
            for (int times = -3; times <= 3; times += 2) {
                Signer signer = new Signer(fraction.multiply(BigInteger.valueOf(times)).mod(N));
                for (int ofBase = -3; ofBase <= 3; ofBase++) {
                    for (int ofKey : new int[] {1, 2, 4, -1, -2, -4}) {
                        sumOf(signer, ofBase, ofKey);
                    }
                }
            }
        }
    }

    /** A message and a SIG for which the sum is ofBase times the base and ofKey times the key. */
    private static void sumOf(Signer signer, int ofBase, int ofKey) {
        BigInteger base = BigInteger.valueOf(ofBase).mod(N);
        BigInteger key = BigInteger.valueOf(ofKey).mod(N);
        // The sum as a multiple of the base.
        BigInteger k = base.add(key.multiply(signer.secret)).mod(N);
        boolean some = k.signum() != 0;
        BigInteger right = some ? Signer.times(k, Signer.G)[0].mod(N) : BigInteger.TEN;
        for (BigInteger r : new BigInteger[] {right, right.add(ONE)}) {
            BigInteger s = r.multiply(key.modInverse(N)).mod(N);
            byte[] message = Signer.bytes(s.multiply(base).mod(N), 32);
            String what = ofBase + " and " + ofKey + " times " + signer.secret + (r == right ? "" : ", another r");
            due(what, some && r == right, message, signer.shortKey(), Signer.sig(r, s));
        }
    }

    /** A HASH is any 32 bytes: 0, the order and around it, the greatest. */
    private static void messageAboveOrder() {
        BigInteger[] messages = {BigInteger.ZERO, ONE, N.subtract(ONE), N, N.add(ONE), P, ONE.shiftLeft(256).subtract(ONE)};
        for (BigInteger number : messages) {
            byte[] message = Signer.bytes(number, 32);
            byte[] sig = SIGNER.sig(message);
            due("message " + number, true, message, SIGNER.shortKey(), sig);
            byte[] other = message.clone();
            other[31] ^= 1;
            due("message beside " + number, false, other, SIGNER.shortKey(), sig);
        }
        // The order is 0 for a signature.
        due("0 and the order", true, Signer.bytes(N, 32), SIGNER.shortKey(), SIGNER.sig(new byte[32]));
    }

    /** A keeper whose five coinbases that are ripe have this script, and the answer for a TX in the next block. */
    private static final class Chain {
        final CoinKeeper keeper = new CoinKeeper();
        Node tip = Node.genesis();
        final Tx[] coins = new Tx[8];

        Chain(byte[] script) {
            for (int i = 1; i <= 7; i++) {
                Node.Draft draft = tip.next();
                coins[i] = draft.usualCoinbase(COIN, script);
                tip = draft.coinbase(coins[i]).mined();
                CHECKS.equal("coinbase " + i, tip.to(keeper), 0);
            }
        }

        int with(Tx tx) {
            return tip.next().tx(tx).mined().to(keeper);
        }
    }

    private static Tx two(Chain chain) {
        return new Tx().version(3).in(chain.coins[1].id(), 0, Tx.NONE, 9).in(chain.coins[2].id(), 0, Tx.NONE, 8).out(11).out(12, Bytes.of(82)).lock(4);
    }

    /** "of the HASH of the TX": whatever of it is changed behind the signature makes it false. */
    private static void partsThatAreSigned() {
        byte[] lock = Bytes.join(Signer.pushed(SIGNER.shortKey()), Bytes.of(172));
        Chain chain = new Chain(lock);
        byte[] id = chain.coins[1].id();
        byte[] other = chain.coins[2].id();
        byte[] first = Signer.pushed(SIGNER.sig(two(chain).message(0, lock)));
        byte[] second = Signer.pushed(SIGNER.sig(two(chain).message(1, lock)));
        byte[] third = chain.coins[3].id();
        Tx[] changed = {
            new Tx().version(4).in(id, 0, first, 9).in(other, 0, second, 8).out(11).out(12, Bytes.of(82)).lock(4),
            new Tx().version(3).in(id, 0, first, 7).in(other, 0, second, 8).out(11).out(12, Bytes.of(82)).lock(4),
            new Tx().version(3).in(id, 0, first, 9).in(other, 0, second, 7).out(11).out(12, Bytes.of(82)).lock(4),
            new Tx().version(3).in(other, 0, first, 9).in(id, 0, second, 8).out(11).out(12, Bytes.of(82)).lock(4),
            new Tx().version(3).in(other, 0, second, 8).in(id, 0, first, 9).out(11).out(12, Bytes.of(82)).lock(4),
            new Tx().version(3).in(id, 0, first, 9).in(third, 0, second, 8).out(11).out(12, Bytes.of(82)).lock(4),
            new Tx().version(3).in(id, 0, first, 9).out(11).out(12, Bytes.of(82)).lock(4),
            new Tx().version(3).in(id, 0, first, 9).in(other, 0, second, 8).out(10).out(12, Bytes.of(82)).lock(4),
            new Tx().version(3).in(id, 0, first, 9).in(other, 0, second, 8).out(11).out(12, Bytes.of(83)).lock(4),
            new Tx().version(3).in(id, 0, first, 9).in(other, 0, second, 8).out(11).out(12, Bytes.of(82, 97)).lock(4),
            new Tx().version(3).in(id, 0, first, 9).in(other, 0, second, 8).out(11).lock(4),
            new Tx().version(3).in(id, 0, first, 9).in(other, 0, second, 8).out(12, Bytes.of(82)).out(11).lock(4),
            new Tx().version(3).in(id, 0, first, 9).in(other, 0, second, 8).out(11).out(12, Bytes.of(82)).lock(5),
            new Tx().version(3).in(id, 0, second, 9).in(other, 0, first, 8).out(11).out(12, Bytes.of(82)).lock(4)};
        for (int i = 0; i < changed.length; i++) {
            CHECKS.equal("changed " + i, chain.with(changed[i]), 13);
        }
        CHECKS.equal("as it was signed", chain.with(two(chain).script(0, first).script(1, second)), 0);
        // Scripts of INPUTS are not signed: one more push ahead changes nothing.
        Chain again = new Chain(lock);
        CHECKS.equal("the same with other scripts", again.with(two(again).script(0, Bytes.join(Bytes.of(85), first))
                .script(1, Bytes.join(Bytes.of(0, 0), second))), 0);
    }

    /** "all scripts of INPUTS empty but that of this one, which is the OUTPUT's script" */
    private static void scriptThatIsSigned() {
        for (int more : new int[] {0, 1, 217, 218, 219, 300, 900}) {
            // Ones that are dropped make the script as long as is wanted: 252 and 253 bytes, too.
            byte[] filler = more < 200 ? Bytes.many(97, more) : filler(more);
            byte[] lock = Bytes.join(filler, Signer.pushed(SIGNER.shortKey()), Bytes.of(172));
            Chain chain = new Chain(lock);
            Tx tx = two(chain);
            byte[] first = Signer.pushed(SIGNER.sig(tx.message(0, lock)));
            byte[] second = Signer.pushed(SIGNER.sig(tx.message(1, lock)));
            byte[] empty = Signer.pushed(SIGNER.sig(tx.message(0, Tx.NONE)));
            byte[] cut = Signer.pushed(SIGNER.sig(tx.message(0, Arrays.copyOf(lock, lock.length - 1))));
            CHECKS.equal(lock.length + " bytes, an empty one signed", chain.with(two(chain).script(0, empty).script(1, second)), 13);
            CHECKS.equal(lock.length + " bytes, less one signed", chain.with(two(chain).script(0, cut).script(1, second)), 13);
            CHECKS.equal(lock.length + " bytes signed", chain.with(two(chain).script(0, first).script(1, second)), 0);
        }
    }

    private static byte[] filler(int size) {
        byte[] all = new byte[0];
        while (all.length < size) {
            int part = Math.min(100, size - all.length - 3);
            all = Bytes.join(all, Bytes.of(76, part), Bytes.many(172, part), Bytes.of(117));
            if (size - all.length > 0 && size - all.length < 4) {
                all = Bytes.join(all, Bytes.many(97, size - all.length));
            }
        }
        return all;
    }

    /** "with this byte as four behind it" */
    private static void byteAsFour() {
        byte[] lock = Bytes.join(Signer.pushed(SIGNER.shortKey()), Bytes.of(172));
        Chain chain = new Chain(lock);
        Tx tx = new Tx().in(chain.coins[1], 0).out(11);
        tx.script(0, lock);
        // The only INPUT has the OUTPUT's script now, so its bytes are those that are signed.
        byte[] plain = tx.bytes();
        byte[][] behind = {Bytes.of(), Bytes.of(1), Bytes.of(1, 0), Bytes.of(0, 0, 0, 1), Bytes.of(1, 0, 0, 0, 0), Bytes.of(1, 0, 0, 0)};
        for (byte[] last : behind) {
            byte[] sig = SIGNER.sig(Bytes.hash(Bytes.join(plain, last)));
            int due = Arrays.equals(last, Bytes.of(1, 0, 0, 0)) ? 0 : 13;
            CHECKS.equal("behind it " + Bytes.text(last), chain.with(new Tx().in(chain.coins[1], 0).out(11).script(0, Signer.pushed(sig))), due);
        }
    }

    /** "What is not so is false (not a failure)" */
    private static void falseNotFailure() {
        byte[] key = SIGNER.shortKey();
        byte[] lock = Bytes.of(172, 145);
        Chain chain = new Chain(lock);
        Tx tx = new Tx().in(chain.coins[1], 0).out(11);
        byte[] right = SIGNER.sig(tx.message(0, lock));
        byte[] none = right.clone();
        none[right.length - 1] = 0;
        byte[] single = right.clone();
        single[right.length - 1] = 3;
        byte[] longer = Bytes.join(right, Bytes.of(1));
        byte[] notDer = right.clone();
        notDer[0] = 0x31;
        byte[] hybrid = SIGNER.longKey();
        hybrid[0] = (byte) (SIGNER.point[1].testBit(0) ? 7 : 6);
        byte[] off = SIGNER.longKey();
        off[64] ^= 1;
        byte[][][] wrong = {{new byte[0], key}, {none, key}, {single, key}, {longer, key}, {notDer, key}, {right, new byte[0]}, {right, hybrid},
            {right, off}, {right, Arrays.copyOf(key, 32)}, {right, Arrays.copyOf(key, 34)}, {Bytes.many(1, 255), key}, {right, Bytes.many(2, 255)},
            {Signer.sig(BigInteger.ZERO, ONE), key}, {Signer.sig(ONE, N), key}, {right, new Signer(5).shortKey()}, {key, right},
            {Signer.sig(ONE, BigInteger.ZERO), key}, {Signer.sig(N, ONE), key}, {Bytes.of(1), key}, {right, Bytes.of(4)}};
        CHECKS.equal("right, so NOT is false", chain.with(tx.script(0, Bytes.join(Signer.pushed(right), Signer.pushed(key)))), 13);
        for (int i = 0; i < wrong.length; i++) {
            byte[] script = Bytes.join(Signer.pushed(wrong[i][0]), Signer.pushed(wrong[i][1]));
            Chain fresh = new Chain(lock);
            CHECKS.equal("wrong " + i + " is false", fresh.with(new Tx().in(fresh.coins[1], 0).out(11).script(0, script)), 0);
        }
        // In a CHECKMULTISIG, too: none of them keeps the right key behind it from being found.
        for (int i = 0; i < wrong.length; i++) {
            byte[] many = Bytes.join(Bytes.of(82), Signer.pushed(wrong[i][1]), Signer.pushed(key), Bytes.of(82, 174, 145));
            Chain fresh = new Chain(many);
            Tx spends = new Tx().in(fresh.coins[1], 0).out(11);
            byte[] good = Signer.pushed(SIGNER.sig(spends.message(0, many)));
            byte[] script = Bytes.join(Bytes.of(0), Signer.pushed(wrong[i][0]), good);
            CHECKS.equal("wrong " + i + " is false among two", fresh.with(spends.script(0, script)), 0);
            byte[] one = Bytes.join(Bytes.of(81), Signer.pushed(wrong[i][1]), Signer.pushed(key), Bytes.of(82, 174));
            fresh = new Chain(one);
            spends = new Tx().in(fresh.coins[1], 0).out(11);
            good = Signer.pushed(SIGNER.sig(spends.message(0, one)));
            CHECKS.equal("behind wrong " + i + " the right key", fresh.with(spends.script(0, Bytes.join(Bytes.of(0), good))), 0);
        }
    }

    /** The one thing more of a CHECKMULTISIG is no SIG, though it looks like one. */
    private static void oneThingMore() {
        Signer other = new Signer(11);
        byte[] keys = Bytes.join(Signer.pushed(other.shortKey()), Signer.pushed(SIGNER.shortKey()));
        for (int sigs = 0; sigs <= 2; sigs++) {
            byte[] lock = Bytes.join(Bytes.of(sigs == 0 ? 0 : 80 + sigs), keys, Bytes.of(82, 174));
            Chain chain = new Chain(lock);
            Tx tx = new Tx().in(chain.coins[1], 0).out(11);
            byte[] mine = Signer.pushed(SIGNER.sig(tx.message(0, lock)));
            byte[] its = Signer.pushed(other.sig(tx.message(0, lock)));
            byte[] right = sigs == 0 ? Tx.NONE : sigs == 1 ? mine : Bytes.join(its, mine);
            byte[] less = sigs == 0 ? Tx.NONE : sigs == 1 ? Tx.NONE : mine;
            CHECKS.equal(sigs + ", a SIG in the place of the thing more", chain.with(tx.script(0, Bytes.join(its, less))), sigs == 0 ? 0 : 13);
            chain = new Chain(lock);
            CHECKS.equal(sigs + ", the thing more is a SIG", chain.with(tx.script(0, Bytes.join(its, right))), 0);
            chain = new Chain(lock);
            CHECKS.equal(sigs + ", the thing more is the other SIG", chain.with(tx.script(0, Bytes.join(mine, right))), 0);
            chain = new Chain(lock);
            CHECKS.equal(sigs + ", the thing more is nothing", chain.with(tx.script(0, Bytes.join(Bytes.of(0), right))), 0);
        }
    }

    /** "(there is no TX: SIGS are false)" */
    private static void noTxNoSig() {
        byte[] key = Signer.pushed(SIGNER.shortKey());
        for (byte[] message : new byte[][] {new byte[32], Bytes.hash(Bytes.of()), Bytes.hash(Bytes.of(1, 0, 0, 0)), MESSAGE}) {
            byte[] sig = Signer.pushed(SIGNER.sig(message));
            byte[] first = Bytes.join(sig, key);
            CHECKS.that("CHECKSIG is false", Bytes.row(KEEPER, Bytes.join(first, Bytes.of(172, 145))).script(first.length));
            CHECKS.that("its VERIFY fails", !Bytes.row(KEEPER, Bytes.join(first, Bytes.of(173, 81))).script(first.length));
            byte[] many = Bytes.join(Bytes.of(0), sig, Bytes.of(81), key, Bytes.of(81));
            CHECKS.that("CHECKMULTISIG is false", Bytes.row(KEEPER, Bytes.join(many, Bytes.of(174, 145))).script(many.length));
            CHECKS.that("its VERIFY fails, too", !Bytes.row(KEEPER, Bytes.join(many, Bytes.of(175, 81))).script(many.length));
        }
        // Also behind a block whose TX had SIGS.
        byte[] lock = Bytes.join(key, Bytes.of(172));
        Chain chain = new Chain(lock);
        Tx tx = new Tx().in(chain.coins[1], 0).out(11);
        byte[] sig = Signer.pushed(SIGNER.sig(tx.message(0, lock)));
        CHECKS.equal("a SIG of a TX", chain.with(tx.script(0, sig)), 0);
        CHECKS.that("the same SIG alone", !Bytes.row(chain.keeper, Bytes.join(sig, lock)).script(sig.length));
    }
}
