import java.math.BigInteger;

/** Promises 4, 7 and 9: the bits that are wanted, each eighth block, and the work behind the tip. */
public final class BitsTest {
    private static final Checks CHECKS = new Checks("BitsTest");
    private static final BigInteger LIMIT = Node.target(0x207FFFFF);

    public static void main(String[] args) {
        for (long step : new long[] {1, 100, 171, 172, 300, 500, 600, 685, 686, 687, 1500, 3000, 100000}) {
            sameSteps(step);
        }
        backwards();
        changing();
        nearTheTarget();
        CHECKS.close();
    }

    private static int wanted(int bits, long took) {
        long bounded = Math.max(1200, Math.min(19200, took));
        BigInteger target = Node.target(bits).multiply(BigInteger.valueOf(bounded)).divide(BigInteger.valueOf(4800)).min(LIMIT);
        int bytes = (target.bitLength() + 7) / 8;
        int m = target.shiftRight(8 * (bytes - 3)).intValue();
        return m < 0x800000 ? bytes << 24 | m : bytes + 1 << 24 | m >> 8;
    }

    private static long work(int bits) {
        return BigInteger.ONE.shiftLeft(256).divide(Node.target(bits).add(BigInteger.ONE)).longValue();
    }

    private static void sameSteps(long step) {
        CoinKeeper keeper = new CoinKeeper();
        Node tip = Node.genesis();
        int bits = 0x207FFFFF;
        long work = work(bits);
        for (int height = 1; height <= 18; height++) {
            if (height % 8 == 0) {
                int due = wanted(bits, 7 * step);
                if (due != bits) {
                    CHECKS.equal("old bits at " + height, tip.next().time(tip.time + step).bits(bits).mined().to(keeper), 5);
                }
                bits = due;
            }
            CHECKS.equal("wanted at " + height + " by " + step, keeper.tip(11), bits);
            tip = tip.next().time(tip.time + step).bits(bits).mined();
            CHECKS.equal("height " + height + " by " + step, tip.to(keeper), 0);
            CHECKS.equal("bits at " + height, keeper.tip(10), bits);
            work += work(bits);
            CHECKS.equal("work at " + height, keeper.count(4), work);
        }
    }

    /** The time before the eighth block may be below that of the one eight before it. */
    private static void backwards() {
        CoinKeeper keeper = new CoinKeeper();
        Node tip = Node.genesis();
        for (int height = 1; height <= 15; height++) {
            long time = height == 8 ? 1900000 : height == 15 ? 1001050 : 1000000 + 100 * height;
            int bits = height < 8 ? 0x207FFFFF : wanted(0x207FFFFF, 700);
            tip = tip.next().time(time).bits(bits).mined();
            CHECKS.equal("back and forth " + height, tip.to(keeper), 0);
        }
        CHECKS.equal("a time below", keeper.tip(11), wanted(wanted(0x207FFFFF, 700), 1001050 - 1900000));
        CHECKS.equal("is a quarter", keeper.tip(11), 0x2007FFFF);
    }

    /** IDs just above and just below a target whose bytes are 5D, 55 and 54. */
    private static void nearTheTarget() {
        CoinKeeper keeper = new CoinKeeper();
        Node tip = Node.genesis();
        for (int height = 1; height <= 7; height++) {
            tip = tip.next().time(tip.time + 500).mined();
            CHECKS.equal("near: height " + height, tip.to(keeper), 0);
        }
        int bits = keeper.tip(11);
        CHECKS.equal("near: bits", bits, 0x205D5554);
        for (int near = 0; near <= 2; near++) {
            CHECKS.equal("above, but for bytes " + near, tip.next().bits(bits).above().near(near).mined().to(keeper), 6);
            CHECKS.equal("below, but for bytes " + near, tip.next().bits(bits).near(near).mark(near).mined().to(keeper), near == 0 ? 0 : 1);
        }
    }

    private static void changing() {
        CHECKS.equal("a quarter of the limit", wanted(0x207FFFFF, 1), 0x201FFFFF);
        CoinKeeper keeper = new CoinKeeper();
        Node tip = Node.genesis();
        int bits = 0x207FFFFF;
        long[] steps = {171, 171, 3000, 250, 900, 700};
        Node eightBefore = tip;
        for (int height = 1; height <= 45; height++) {
            long step = steps[height / 8];
            if (height % 8 == 0) {
                bits = wanted(bits, tip.time - eightBefore.time);
                eightBefore = null;
            }
            CHECKS.equal("changing: wanted at " + height, keeper.tip(11), bits);
            tip = tip.next().time(tip.time + step).bits(bits).mined();
            CHECKS.equal("changing: height " + height, tip.to(keeper), 0);
            if (eightBefore == null) {
                eightBefore = tip;
            }
        }
    }
}
