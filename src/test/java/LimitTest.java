/**
 * Promise 4: how many blocks and bytes are taken at most. No 512 calls can come so far; the limits are there all the same,
 * and so are the heights from 128 on, whose push has two bytes.
 */
public final class LimitTest {
    private static final Checks CHECKS = new Checks("LimitTest");

    public static void main(String[] args) {
        blocks();
        subsidyIsCut();
        bytes();
        CHECKS.close();
    }

    /** "IllegalStateException, ahead of all else, if 200 were TAKEN (without GENESIS)" */
    private static void blocks() {
        CoinKeeper keeper = new CoinKeeper();
        Node tip = Node.genesis();
        for (int height = 1; height <= 200; height++) {
            if (height == 127) {
                CHECKS.equal("127 in two bytes", pushing(tip, 2, 127, 0).to(keeper), 9);
                CHECKS.equal("127 below 0", pushing(tip, 1, 255, 0).to(keeper), 9);
            }
            if (height == 128) {
                CHECKS.equal("128 in one byte", pushing(tip, 1, 128, 0).to(keeper), 9);
                CHECKS.equal("128 in two bytes of three", pushing(tip, 2, 128).to(keeper), 9);
                CHECKS.equal("128 below 0", pushing(tip, 2, 128, 128).to(keeper), 9);
                CHECKS.equal("384", pushing(tip, 2, 128, 1).to(keeper), 9);
                CHECKS.equal("128 in three bytes", pushing(tip, 3, 128, 0, 0).to(keeper), 9);
                tip = pushing(tip, 2, 128, 0);
                CHECKS.equal("128 alone", tip.to(keeper), 0);
                continue;
            }
            if (height == 127 || height == 17) {
                tip = pushing(tip, 1, height);
                CHECKS.equal(height + " alone", tip.to(keeper), 0);
                continue;
            }
            if (height == 200) {
                Node.Draft draft = tip.next();
                CHECKS.equal("199 and one that is refused", draft.mark(1).above().mined().to(keeper), 6);
            }
            tip = tip.next().mined();
            CHECKS.equal("height " + height, tip.to(keeper), 0);
        }
        Node more = tip.next().mined();
        CHECKS.thrown("one more", IllegalStateException.class, () -> more.to(keeper));
        CHECKS.equal("row stays", keeper.count(5), more.bytes.length);
        CHECKS.equal("its bytes, too", keeper.hash(1), Bytes.word(Bytes.hash(more.bytes), 1));
        keeper.end(0);
        CHECKS.thrown("no bytes", IllegalStateException.class, () -> keeper.submit());
        CHECKS.equal("taken", keeper.count(0), 200);
        CHECKS.equal("tip", keeper.tip(8), 200);
    }

    private static Node pushing(Node on, int... script) {
        return on.next().coinbase(new Tx().in(new byte[32], Tx.LAST, Bytes.of(script), 0).out(1)).mined();
    }

    /** "SUBSIDY is 5000000000 / 2^(HEIGHT / 20) (cut)": at 200 the half is cut. */
    private static void subsidyIsCut() {
        long[] values = {4882812, 4882813};
        for (long value : values) {
            CoinKeeper keeper = new CoinKeeper();
            Node tip = Node.genesis();
            for (int height = 1; height < 200; height++) {
                tip = tip.next().mined();
                tip.to(keeper);
            }
            CHECKS.equal("height", keeper.tip(8), 199);
            Node.Draft draft = tip.next();
            Node last = draft.coinbase(draft.usualCoinbase(value, Tx.ONE)).mined();
            CHECKS.equal("SUBSIDY " + value, last.to(keeper), value == 4882812 ? 0 : 14);
            CHECKS.thrown("200 were TAKEN, the BAD one, too", IllegalStateException.class, () -> keeper.submit());
        }
    }

    /** "or the bytes of all TAKEN and of this one would be more than 100000 (THE ROW stays)" */
    private static void bytes() {
        CoinKeeper keeper = new CoinKeeper();
        Node tip = Node.genesis();
        int taken = 0;
        for (int i = 1; i <= 33; i++) {
            tip = sized(tip, 3000);
            taken += tip.bytes.length;
            CHECKS.equal("block " + i, tip.to(keeper), 0);
        }
        CHECKS.equal("99000 bytes", taken, 99000);
        Node more = sized(tip, 1001);
        CHECKS.thrown("a byte too many", IllegalStateException.class, () -> more.to(keeper));
        CHECKS.equal("row stays", keeper.count(5), 1001);
        CHECKS.thrown("bytes that are not right", IllegalStateException.class, () -> Bytes.row(keeper, Bytes.many(0, 1001)).submit());
        CHECKS.equal("no bytes", Bytes.row(keeper, new byte[0]).submit(), 1);
        CHECKS.equal("just so many", sized(tip, 1000).to(keeper), 0);
        CHECKS.thrown("one byte", IllegalStateException.class, () -> Bytes.row(keeper, Bytes.of(0)).submit());
    }

    /** A block of so many bytes. */
    private static Node sized(Node on, int size) {
        Tx coinbase = on.next().usualCoinbase(5, Tx.ONE);
        int left = size - on.next().coinbase(coinbase).mined().bytes.length;
        while (left > 1011) {
            coinbase.out(0, Bytes.many(97, 800));
            left -= 811;
        }
        if (left > 264) {
            coinbase.out(0, Bytes.many(97, left - 11));
        }
        Node made = on.next().coinbase(coinbase).mined();
        CHECKS.equal("bytes of a block", made.bytes.length, size);
        return made;
    }
}
