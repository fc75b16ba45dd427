import java.math.BigInteger;
import java.util.ArrayList;
import java.util.List;
import java.util.Random;

/**
 * Scripts and SIGS by chance, in a keeper and in the model. The first run, how many scripts and how many SIGS may be
 * given: the same number always makes the same run.
 */
public final class ModelScriptTest {
    private static final int SCRIPTS = 2000;
    private static final int SIGS = 100;
    private static final Checks CHECKS = new Checks("ModelScriptTest");
    private static final int[] OPS = {
        79, 80, 81, 82, 83, 96, 97, 99, 99, 100, 103, 103, 104, 104, 105, 106, 107, 107, 108, 108, 109, 110, 110, 115, 116,
        117, 118, 119, 120, 121, 122, 123, 124, 125, 130, 135, 136, 139, 140, 143, 144, 145, 146, 147, 148, 154, 155, 156,
        157, 158, 159, 160, 161, 162, 163, 164, 165, 166, 168, 169, 170, 172, 173, 174, 175};
    private static final String[] NUMBERS = {
        "", "00", "80", "01", "81", "7f", "ff", "8000", "8080", "ff00", "ff80", "0100", "0001", "ff7f", "ffff", "000080",
        "ffffff7f", "ffffffff", "00000080", "01000000", "fffeff7f", "0000000000", "ffffffff00", "0000000080", "0200", "03"};

    private final Random random;
    private final Twins twins;
    /** Whether scripts are long and hold many things. */
    private final boolean isWide;

    private ModelScriptTest(int seed) {
        random = new Random(seed);
        twins = new Twins(CHECKS, "script " + seed);
        isWide = seed % 20 == 0;
    }

    public static void main(String[] args) {
        int first = args.length > 0 ? Integer.parseInt(args[0]) : 1;
        int scripts = args.length > 1 ? Integer.parseInt(args[1]) : SCRIPTS;
        int sigs = args.length > 2 ? Integer.parseInt(args[2]) : SIGS;
        int failed = 0;
        for (int seed = first; seed < first + scripts; seed++) {
            failed += new ModelScriptTest(seed).script() ? 0 : 1;
        }
        CHECKS.that("some fail and some do not", failed > scripts / 20 && failed < scripts / 2);
        int held = 0;
        for (int seed = first; seed < first + sigs; seed++) {
            held += new ModelScriptTest(seed).sig() ? 1 : 0;
        }
        CHECKS.that("some hold and some do not: " + held, held > sigs / 4 && held < sigs);
        CHECKS.close();
    }

    private boolean chance(int percent) {
        return random.nextInt(100) < percent;
    }

    /** Whether the first script did not fail: then the second, if it is not by chance, too, looks at all that it left. */
    private boolean script() {
        byte[] first = drawn();
        if (chance(20)) {
            byte[] any = drawn();
            twins.row(Bytes.join(first, any));
            twins.script(first.length);
        }
        List<byte[]> left = ModelScript.left(first);
        byte[] second = left == null ? Tx.ONE : lookingAt(left);
        boolean isLooked = second.length <= 1000 && (left == null || left.size() <= 199);
        twins.row(Bytes.join(first, isLooked ? second : Tx.NONE));
        String answer = twins.script(first.length);
        if (isLooked) {
            CHECKS.equal("what is left of " + Bytes.text(first), answer, left == null ? "0" : "1");
        }
        return left != null;
    }

    private byte[] lookingAt(List<byte[]> left) {
        Bytes all = new Bytes();
        for (int i = left.size() - 1; i >= 0; i--) {
            all.add(Signer.pushed(left.get(i))).add(Bytes.of(136));
        }
        return all.add(Bytes.of(116, 0, 135)).made();
    }

    /** Ops one by one: one that fails is mostly left out again. */
    private byte[] drawn() {
        byte[] script = Tx.NONE;
        int opened = 0;
        int steps = isWide ? 400 : 1 + random.nextInt(40);
        for (int i = 0; i < steps; i++) {
            byte[] step = step();
            int op = step[0] & 255;
            int open = opened + (op == 99 || op == 100 ? 1 : op == 104 ? -1 : 0);
            byte[] longer = Bytes.join(script, step);
            boolean fails = open < 0 || ModelScript.left(Bytes.join(longer, Bytes.many(104, open))) == null;
            if (longer.length + Math.max(open, 0) <= 1000 && (!fails || random.nextInt(20 * steps) < 10)) {
                script = longer;
                opened = Math.max(open, 0);
            }
        }
        return Bytes.join(script, Bytes.many(104, chance(98) ? opened : random.nextInt(opened + 1)));
    }

    private byte[] step() {
        if (chance(isWide ? 60 : 35)) {
            return Signer.pushed(Bytes.hex(NUMBERS[random.nextInt(NUMBERS.length)]));
        }
        if (chance(4)) {
            byte[] bytes = new byte[random.nextInt(chance(80) ? 80 : 256)];
            random.nextBytes(bytes);
            return chance(50) ? Signer.pushed(bytes) : Bytes.join(Bytes.of(76, bytes.length), bytes);
        }
        if (chance(4)) {
            return several();
        }
        return Bytes.of(chance(97) ? OPS[random.nextInt(OPS.length)] : random.nextInt(256));
    }

    /** A CHECKMULTISIG with all it needs, or nearly. */
    private byte[] several() {
        int keys = random.nextInt(chance(80) ? 4 : 22);
        int sigs = random.nextInt(keys + 1) + (chance(5) ? 1 : 0);
        Bytes all = new Bytes().add(new byte[chance(95) ? 1 + sigs : sigs]).add(Signer.pushed(Bytes.of(sigs)));
        return all.add(new byte[keys]).add(Signer.pushed(Bytes.of(keys))).add(Bytes.of(chance(90) ? 174 : 175)).made();
    }

    /** Whether the SIG holds. */
    private boolean sig() {
        Signer signer = new Signer(chance(10) ? BigInteger.valueOf(1 + random.nextInt(20)) : number());
        byte[] hash = Signer.bytes(chance(10) ? edge() : number(), 32);
        BigInteger k = chance(10) ? BigInteger.valueOf(1 + random.nextInt(40)) : number().mod(Signer.N).max(BigInteger.ONE);
        BigInteger[] both = signer.numbers(hash, k);
        byte[] key = chance(50) ? signer.shortKey() : signer.longKey();
        byte[] sig = Signer.sig(chance(5) ? edge() : both[0], chance(5) ? edge() : chance(50) ? both[1] : Signer.N.subtract(both[1]));
        if (chance(10)) {
            sig[random.nextInt(sig.length)] ^= (byte) (1 << random.nextInt(8));
        }
        if (chance(10)) {
            key[random.nextInt(key.length)] ^= (byte) (1 << random.nextInt(8));
        }
        if (chance(5)) {
            sig = java.util.Arrays.copyOf(sig, sig.length + random.nextInt(3) - 1);
        }
        twins.row(Bytes.join(hash, key, sig));
        String answer = twins.signed(key.length);
        twins.signed(key.length + random.nextInt(3) - 1);
        twins.look();
        return answer.equals("1");
    }

    private BigInteger number() {
        return new BigInteger(256, random);
    }

    private BigInteger edge() {
        List<BigInteger> edges = new ArrayList<>(List.of(BigInteger.ZERO, Signer.N, Signer.P,
                BigInteger.ONE.shiftLeft(256), Signer.P.subtract(Signer.N), Signer.N.shiftRight(1)));
        BigInteger near = edges.get(random.nextInt(edges.size())).add(BigInteger.valueOf(random.nextInt(5) - 2));
        return near.max(BigInteger.ZERO).mod(BigInteger.ONE.shiftLeft(256));
    }
}
