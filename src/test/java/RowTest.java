/** Promises 1 (a new object), 2 (feed), 3 (end), 6 (hash), 9 (count 5). */
public final class RowTest {
    private static final Checks CHECKS = new Checks("RowTest");

    public static void main(String[] args) {
        newObject();
        feeding();
        ending();
        hashing();
        keepersAreApart();
        CHECKS.close();
    }

    private static void newObject() {
        CoinKeeper keeper = new CoinKeeper();
        for (int k = 0; k < 8; k++) {
            CHECKS.equal("new: tip " + k, keeper.tip(k), 0);
        }
        CHECKS.equal("new: height", keeper.tip(8), 0);
        CHECKS.equal("new: time", keeper.tip(9), 1000000);
        CHECKS.equal("new: bits", keeper.tip(10), 0x207FFFFF);
        CHECKS.equal("new: wanted", keeper.tip(11), 0x207FFFFF);
        long[] due = {0, 0, 0, 0, 2, 0};
        for (int what = 0; what < 6; what++) {
            CHECKS.equal("new: count " + what, keeper.count(what), due[what]);
        }
        CHECKS.equal("new: digest", keeper.digest(), 0);
        CHECKS.thrown("tip -1", IllegalArgumentException.class, () -> keeper.tip(-1));
        CHECKS.thrown("tip 12", IllegalArgumentException.class, () -> keeper.tip(12));
        CHECKS.thrown("count -1", IllegalArgumentException.class, () -> keeper.count(-1));
        CHECKS.thrown("count 6", IllegalArgumentException.class, () -> keeper.count(6));
        CHECKS.thrown("tip, far off", IllegalArgumentException.class, () -> keeper.tip(Integer.MIN_VALUE));
        CHECKS.thrown("count, far off", IllegalArgumentException.class, () -> keeper.count(Integer.MAX_VALUE));
    }

    private static void feeding() {
        CoinKeeper keeper = new CoinKeeper();
        for (int i = 1; i <= 150; i++) {
            CHECKS.equal("feed " + i, keeper.feed(i, 0, -1, 7, i * 31), 20 * i);
        }
        int before = keeper.hash(0);
        CHECKS.thrown("feed beyond 3000", IllegalStateException.class, () -> keeper.feed(1, 2, 3, 4, 5));
        CHECKS.equal("row stays", keeper.count(5), 3000);
        CHECKS.equal("its bytes stay", keeper.hash(0), before);
        keeper.end(2981);
        CHECKS.thrown("feed beyond 3000 by one", IllegalStateException.class, () -> keeper.feed(1, 2, 3, 4, 5));
        CHECKS.equal("row stays again", keeper.count(5), 2981);
        keeper.end(2980);
        CHECKS.equal("feed to 3000", keeper.feed(1, 2, 3, 4, 5), 3000);
    }

    private static void ending() {
        CoinKeeper keeper = new CoinKeeper();
        CHECKS.equal("end 0 of none", keeper.end(0), 0);
        CHECKS.thrown("end 1 of none", IllegalArgumentException.class, () -> keeper.end(1));
        keeper.feed(0x01020304, 0x05060708, 0x090a0b0c, 0x0d0e0f10, 0x11121314);
        CHECKS.thrown("end -1", IllegalArgumentException.class, () -> keeper.end(-1));
        CHECKS.thrown("end 21", IllegalArgumentException.class, () -> keeper.end(21));
        CHECKS.thrown("end, far off", IllegalArgumentException.class, () -> keeper.end(Integer.MIN_VALUE));
        CHECKS.equal("row stays", keeper.count(5), 20);
        CHECKS.equal("end 20", keeper.end(20), 20);
        CHECKS.equal("end 7", keeper.end(7), 7);
        CHECKS.equal("row", keeper.count(5), 7);
        CHECKS.equal("feed behind an end", keeper.feed(-1, 0, 0, 0, 0), 27);
        byte[] due = new byte[27];
        System.arraycopy(Bytes.of(1, 2, 3, 4, 5, 6, 7, 255, 255, 255, 255), 0, due, 0, 11);
        CHECKS.equal("bytes behind an end", keeper.hash(0), Bytes.word(Bytes.hash(due), 0));
    }

    private static void hashing() {
        for (int length = 0; length <= 300; length++) {
            byte[] bytes = new byte[length];
            for (int i = 0; i < length; i++) {
                bytes[i] = (byte) (i * 37 + length);
            }
            CoinKeeper keeper = Bytes.row(new CoinKeeper(), bytes);
            byte[] due = Bytes.hash(bytes);
            for (int k = 0; k < 8; k++) {
                CHECKS.equal("hash " + k + " of " + length, keeper.hash(k), Bytes.word(due, k));
            }
            CHECKS.equal("row stays", keeper.count(5), length);
        }
        CoinKeeper keeper = Bytes.row(new CoinKeeper(), Bytes.many(200, 3000));
        CHECKS.equal("hash of 3000", keeper.hash(7), Bytes.word(Bytes.hash(Bytes.many(200, 3000)), 7));
        CHECKS.thrown("hash -1", IllegalArgumentException.class, () -> keeper.hash(-1));
        CHECKS.thrown("hash 8", IllegalArgumentException.class, () -> keeper.hash(8));
    }

    private static void keepersAreApart() {
        CoinKeeper one = Bytes.row(new CoinKeeper(), Bytes.of(1, 2, 3));
        CoinKeeper two = Bytes.row(new CoinKeeper(), Bytes.of(4, 5));
        CHECKS.equal("row of one", one.count(5), 3);
        CHECKS.equal("row of two", two.count(5), 2);
        CHECKS.equal("hash of one", one.hash(3), Bytes.word(Bytes.hash(Bytes.of(1, 2, 3)), 3));
    }
}
