import java.util.NoSuchElementException;

/** Promises 8 (unspent) and 10 (digest). */
public final class UnspentTest {
    private static final Checks CHECKS = new Checks("UnspentTest");

    public static void main(String[] args) {
        CoinKeeper keeper = new CoinKeeper();
        Node tip = Node.genesis();
        long due = 0;
        for (int height = 1; height <= 6; height++) {
            Node.Draft draft = tip.next();
            Tx coinbase = draft.usualCoinbase(1000 + height, Tx.ONE).out(0).out(7L * height, Bytes.of(106));
            tip = draft.coinbase(coinbase).mined();
            CHECKS.equal("height " + height, tip.to(keeper), 0);
            due += part(coinbase, 0, 1000 + height) + part(coinbase, 1, 0) + part(coinbase, 2, 7L * height);
            CHECKS.equal("digest at " + height, keeper.digest(), due);
            CHECKS.equal("unspent at " + height, keeper.count(2), 3 * height);
        }
        Tx coinbase = tip.before.before.before.before.before.coinbase;
        lookUp(keeper, coinbase);
        Tx spends = new Tx().in(coinbase, 0).in(coinbase, 1).out(900).out(101);
        tip = tip.next().tx(spends).mined();
        CHECKS.equal("spent", tip.to(keeper), 0);
        due += part(spends, 0, 900) + part(spends, 1, 101) + part(tip.coinbase, 0, Node.subsidy(7));
        due -= part(coinbase, 0, 1001) + part(coinbase, 1, 0);
        CHECKS.equal("digest then", keeper.digest(), due);
        CHECKS.equal("values", keeper.count(3), 6021 + 7 * 21 + Node.subsidy(7));
        Bytes.row(keeper, coinbase.id());
        CHECKS.thrown("spent 0", NoSuchElementException.class, () -> keeper.unspent(0));
        CHECKS.thrown("spent 1", NoSuchElementException.class, () -> keeper.unspent(1));
        CHECKS.equal("not spent", keeper.unspent(2), 7);
        Bytes.row(keeper, spends.id());
        CHECKS.equal("new 0", keeper.unspent(0), 900);
        CHECKS.equal("new 1", keeper.unspent(1), 101);
        CHECKS.equal("row stays", keeper.count(5), 32);
        CHECKS.close();
    }

    private static void lookUp(CoinKeeper keeper, Tx coinbase) {
        Bytes.row(keeper, coinbase.id());
        CHECKS.equal("unspent 0", keeper.unspent(0), 1001);
        CHECKS.equal("unspent 1", keeper.unspent(1), 0);
        CHECKS.equal("unspent 2", keeper.unspent(2), 7);
        for (int index : new int[] {3, -1, Integer.MIN_VALUE, Integer.MAX_VALUE, 256, 65536}) {
            CHECKS.thrown("unspent " + index, NoSuchElementException.class, () -> keeper.unspent(index));
        }
        byte[] other = coinbase.id();
        other[31] ^= 1;
        Bytes.row(keeper, other);
        CHECKS.thrown("another ID", NoSuchElementException.class, () -> keeper.unspent(0));
        for (int length : new int[] {0, 31, 33, 64}) {
            Bytes.row(keeper, Bytes.many(1, length));
            CHECKS.thrown("row of " + length, IllegalArgumentException.class, () -> keeper.unspent(0));
            CHECKS.thrown("row of " + length + ", far off", IllegalArgumentException.class, () -> keeper.unspent(-5));
            CHECKS.equal("row stays", keeper.count(5), length);
        }
    }

    private static long part(Tx tx, int index, long value) {
        long x = (31L * Bytes.word(tx.id(), 0) + index) * 31 + value;
        return x * x + x;
    }
}
