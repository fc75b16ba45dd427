/**
 * Promise 4: how many blocks and bytes are taken at most. No 512 calls can come so far; the limits are there all the same,
 * and so are the heights from 128 on, whose push has two bytes.
 */
public final class LimitTest {
    private static final Checks CHECKS = new Checks("LimitTest");

    public static void main(String[] args) {
        blocks();
        bytes();
        CHECKS.close();
    }

    private static void blocks() {
        CoinKeeper keeper = new CoinKeeper();
        Node tip = Node.genesis();
        for (int height = 1; height <= 200; height++) {
            if (height == 128) {
                Tx wrong = new Tx().in(new byte[32], Tx.LAST, Bytes.of(1, 128, 0), 0).out(1);
                CHECKS.equal("128 in one byte", tip.next().coinbase(wrong).mined().to(keeper), 9);
            }
            if (height == 200) {
                Node.Draft draft = tip.next();
                CHECKS.equal("199 and one that is refused", draft.mark(1).above().mined().to(keeper), 6);
            }
            tip = tip.next().mined();
            CHECKS.equal("height " + height, tip.to(keeper), 0);
        }
        Node more = tip.next().mined();
        CHECKS.thrown("one more", IllegalStateException.class, () -> more.to(keeper));
        CHECKS.equal("row stays", keeper.count(5), more.bytes.length);
        CHECKS.equal("its bytes, too", keeper.hash(1), Bytes.word(Bytes.hash(more.bytes), 1));
        keeper.end(0);
        CHECKS.thrown("no bytes", IllegalStateException.class, () -> keeper.submit());
        CHECKS.equal("taken", keeper.count(0), 200);
        CHECKS.equal("tip", keeper.tip(8), 200);
    }

    private static void bytes() {
        CoinKeeper keeper = new CoinKeeper();
        Node tip = Node.genesis();
        int taken = 0;
        for (int i = 1; i <= 33; i++) {
            tip = sized(tip, 3000);
            taken += tip.bytes.length;
            CHECKS.equal("block " + i, tip.to(keeper), 0);
        }
        CHECKS.equal("99000 bytes", taken, 99000);
        Node more = sized(tip, 1001);
        CHECKS.thrown("a byte too many", IllegalStateException.class, () -> more.to(keeper));
        CHECKS.equal("row stays", keeper.count(5), 1001);
        CHECKS.thrown("bytes that are not right", IllegalStateException.class, () -> Bytes.row(keeper, Bytes.many(0, 1001)).submit());
        CHECKS.equal("no bytes", Bytes.row(keeper, new byte[0]).submit(), 1);
        CHECKS.equal("just so many", sized(tip, 1000).to(keeper), 0);
        CHECKS.thrown("one byte", IllegalStateException.class, () -> Bytes.row(keeper, Bytes.of(0)).submit());
    }

    /** A block of so many bytes. */
    private static Node sized(Node on, int size) {
        Tx coinbase = on.next().usualCoinbase(5, Tx.ONE);
        int left = size - on.next().coinbase(coinbase).mined().bytes.length;
        while (left > 1011) {
            coinbase.out(0, Bytes.many(97, 800));
            left -= 811;
        }
        if (left > 264) {
            coinbase.out(0, Bytes.many(97, left - 11));
        }
        Node made = on.next().coinbase(coinbase).mined();
        CHECKS.equal("bytes of a block", made.bytes.length, size);
        return made;
    }
}
