/** RIPEMD-160 from its definition: permutations and roots instead of tables. */
public final class ModelRipemd {
    private static final int[] RHO = {7, 4, 13, 1, 10, 6, 15, 3, 12, 0, 9, 5, 2, 14, 11, 8};
    /** How far each of the 16 words is turned, round by round. */
    private static final int[][] TURNS = {
        {11, 14, 15, 12, 5, 8, 7, 9, 11, 13, 14, 15, 6, 7, 9, 8},
        {12, 13, 11, 15, 6, 9, 9, 7, 12, 15, 11, 13, 7, 8, 7, 7},
        {13, 15, 14, 11, 7, 7, 6, 8, 13, 14, 13, 12, 5, 5, 6, 9},
        {14, 11, 12, 14, 8, 6, 5, 5, 15, 12, 15, 14, 9, 9, 8, 6},
        {15, 12, 13, 13, 9, 5, 8, 6, 14, 11, 12, 11, 8, 6, 5, 5}};

    private ModelRipemd() {
    }

    public static byte[] of(byte[] bytes) {
        int zeros = Math.floorMod(55 - bytes.length, 64);
        byte[] all = new Bytes().add(bytes).add(Bytes.of(128)).add(new byte[zeros]).number(8L * bytes.length, 8).made();
        int[] h = {0x67452301, 0xefcdab89, 0x98badcfe, 0x10325476, 0xc3d2e1f0};
        for (int begin = 0; begin < all.length; begin += 64) {
            int[] x = new int[16];
            for (int i = 0; i < 16; i++) {
                x[i] = Bytes.word(all, begin / 4 + i);
            }
            int[] left = line(h.clone(), x, false);
            int[] right = line(h.clone(), x, true);
            int[] next = new int[5];
            for (int i = 0; i < 5; i++) {
                next[i] = h[(i + 1) % 5] + left[(i + 2) % 5] + right[(i + 3) % 5];
            }
            h = next;
        }
        Bytes out = new Bytes();
        for (int word : h) {
            out.number(word, 4);
        }
        return out.made();
    }

    private static int constant(int round, boolean isRight) {
        int[] primes = {2, 3, 5, 7};
        int which = isRight ? round : round - 1;
        if (which < 0 || which > 3) {
            return 0;
        }
        double root = isRight ? Math.cbrt(primes[which]) : Math.sqrt(primes[which]);
        return (int) (long) (root * (1L << 30));
    }

    private static int[] line(int[] v, int[] x, boolean isRight) {
        for (int j = 0; j < 80; j++) {
            int round = j / 16;
            int word = isRight ? (9 * (j % 16) + 5) % 16 : j % 16;
            for (int i = 0; i < round; i++) {
                word = RHO[word];
            }
            int sum = v[0] + mixed(isRight ? 4 - round : round, v[1], v[2], v[3]) + x[word] + constant(round, isRight);
            int turned = Integer.rotateLeft(sum, TURNS[round][word]) + v[4];
            v = new int[] {v[4], turned, v[1], Integer.rotateLeft(v[2], 10), v[3]};
        }
        return v;
    }

    private static int mixed(int which, int b, int c, int d) {
        int[] all = {b ^ c ^ d, b & c | ~b & d, (b | ~c) ^ d, b & d | c & ~d, b ^ (c | ~d)};
        return all[which];
    }
}
