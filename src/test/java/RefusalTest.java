import java.util.ArrayList;
import java.util.List;

/** Promise 4: why a block is not taken (1 to 8), in the order of the document. */
public final class RefusalTest {
    private static final Checks CHECKS = new Checks("RefusalTest");

    public static void main(String[] args) {
        bytes();
        counts();
        place();
        bitsAndWork();
        times();
        roots();
        order();
        CHECKS.close();
    }

    private static int answer(CoinKeeper keeper, byte[] bytes) {
        int got = Bytes.row(keeper, bytes).submit();
        CHECKS.equal("row is empty then", keeper.count(5), 0);
        return got;
    }

    private static void bytes() {
        CoinKeeper keeper = new CoinKeeper();
        Node good = Node.genesis().next().mined();
        CHECKS.equal("no byte", answer(keeper, new byte[0]), 1);
        for (int length = 1; length < good.bytes.length; length++) {
            CHECKS.equal("cut to " + length, answer(keeper, java.util.Arrays.copyOf(good.bytes, length)), 1);
        }
        CHECKS.equal("one byte more", answer(keeper, Bytes.join(good.bytes, Bytes.of(0))), 1);
        CHECKS.equal("none taken", keeper.count(0), 0);
        CHECKS.equal("good", answer(keeper, good.bytes), 0);
        CHECKS.equal("one taken", keeper.count(0), 1);
        CHECKS.equal("none bad", keeper.count(1), 0);
    }

    private static void counts() {
        CoinKeeper keeper = new CoinKeeper();
        Node genesis = Node.genesis();
        CHECKS.equal("a COUNT in 3 bytes", genesis.next().count(Bytes.of(253, 1, 0)).mined().to(keeper), 1);
        CHECKS.equal("252 in 3 bytes", genesis.next().count(Bytes.of(253, 252, 0)).mined().to(keeper), 1);
        CHECKS.equal("a COUNT in 5 bytes", genesis.next().count(Bytes.of(254, 1, 0, 0, 0)).mined().to(keeper), 1);
        CHECKS.equal("a COUNT in 9 bytes", genesis.next().count(Bytes.of(255, 1, 0, 0, 0, 0, 0, 0, 0)).mined().to(keeper), 1);
        CHECKS.equal("a TX too few", genesis.next().count(Bytes.of(2)).mined().to(keeper), 1);
        CHECKS.equal("a TX too many", genesis.next().count(Bytes.of(0)).mined().to(keeper), 1);
        CHECKS.equal("65536 TXS", genesis.next().count(Bytes.of(254, 0, 0, 1, 0)).mined().to(keeper), 1);
        CHECKS.equal("4294967295 TXS", genesis.next().count(Bytes.of(254, 255, 255, 255, 255)).mined().to(keeper), 1);
        byte[] usual = genesis.next().mined().bytes;
        // Behind the header: the COUNT of TXS, a version, the COUNT of INPUTS at 85, HASH and index, a script at 122.
        int[] places = {85, 122, 133, 142};
        String[] names = {"INPUTS", "INPUT's script", "OUTPUTS", "OUTPUT's script"};
        for (int i = 0; i < places.length; i++) {
            byte[] before = java.util.Arrays.copyOf(usual, places[i]);
            byte[] behind = java.util.Arrays.copyOfRange(usual, places[i] + 1, usual.length);
            int right = usual[places[i]];
            for (byte[] wrong : new byte[][] {Bytes.of(253, right, 0), Bytes.of(254, right, 0, 0, 0), Bytes.of(255, right, 0, 0, 0, 0, 0, 0, 0),
                    Bytes.of(254, 255, 255, 255, 255), Bytes.of(253, 255, 255), Bytes.of(right + 100), Bytes.of(252)}) {
                CHECKS.equal(names[i] + " " + Bytes.text(wrong), answer(keeper, Bytes.join(before, wrong, behind)), 1);
            }
        }
        Tx narrow = genesis.next().usualCoinbase(0, Bytes.many(97, 252));
        byte[] fits = genesis.next().coinbase(narrow).mined().bytes;
        byte[] unfit = Bytes.join(java.util.Arrays.copyOf(fits, 142), Bytes.of(253, 252, 0), java.util.Arrays.copyOfRange(fits, 143, fits.length));
        CHECKS.equal("a COUNT of 252 in 3 bytes", answer(keeper, unfit), 1);
        // A script of 252 bytes that are not there: what follows would be the rest of a TX.
        byte[] cut = Bytes.join(java.util.Arrays.copyOf(usual, 122), Bytes.of(252), java.util.Arrays.copyOfRange(usual, 133, usual.length));
        CHECKS.equal("a script that is not there", answer(keeper, cut), 1);
        byte[] gone = Bytes.join(java.util.Arrays.copyOf(usual, 142), Bytes.of(5), java.util.Arrays.copyOfRange(usual, 144, usual.length));
        CHECKS.equal("an OUTPUT's script that is not there", answer(keeper, gone), 1);
        gone[142] = 4;
        CHECKS.equal("no locktime", answer(keeper, gone), 1);
        Tx wide = genesis.next().usualCoinbase(0, Bytes.many(97, 253));
        CHECKS.equal("a COUNT of 253 in 3 bytes", genesis.next().coinbase(wide).mined().to(keeper), 0);
        CHECKS.equal("only the last one taken", keeper.count(0), 1);
    }

    private static void place() {
        CoinKeeper keeper = new CoinKeeper();
        Node one = Node.genesis().next().mined();
        Node two = one.next().mined();
        CHECKS.equal("none before", two.to(keeper), 3);
        CHECKS.equal("first", one.to(keeper), 0);
        CHECKS.equal("first again", one.to(keeper), 2);
        CHECKS.equal("second", two.to(keeper), 0);
        CHECKS.equal("first once more", one.to(keeper), 2);
        Node beside = Node.genesis().next().mark(1).mined();
        CHECKS.equal("beside", beside.to(keeper), 1);
        CHECKS.equal("beside again", beside.to(keeper), 2);
        Node spoiled = two.next().coinbase(two.next().usualCoinbase(Node.subsidy(3) + 1, Tx.ONE)).mined();
        CHECKS.equal("too much made", spoiled.to(keeper), 14);
        CHECKS.equal("a bad one again", spoiled.to(keeper), 2);
        Node behind = spoiled.next().mined();
        CHECKS.equal("behind a bad one", behind.to(keeper), 4);
        CHECKS.equal("behind a bad one, again", behind.to(keeper), 4);
        CHECKS.equal("behind one that was not taken", behind.next().mined().to(keeper), 3);
        CHECKS.equal("taken", keeper.count(0), 4);
        CHECKS.equal("bad", keeper.count(1), 1);
    }

    private static void bitsAndWork() {
        CoinKeeper keeper = new CoinKeeper();
        Node genesis = Node.genesis();
        for (int wrong : new int[] {0x207FFFFE, 0x20800000, 0x1F7FFFFF, 0x217FFFFF, 0, -1, 0x2100FFFF}) {
            CHECKS.equal("bits " + Integer.toHexString(wrong), genesis.next().wrongBits(wrong).mined().to(keeper), 5);
        }
        CHECKS.equal("not enough work", genesis.next().above().mined().to(keeper), 6);
        CHECKS.equal("none taken", keeper.count(0), 0);
    }

    private static void times() {
        CoinKeeper keeper = new CoinKeeper();
        Node genesis = Node.genesis();
        CHECKS.equal("time of the genesis", genesis.next().time(1000000).mined().to(keeper), 7);
        CHECKS.equal("time 0", genesis.next().time(0).mined().to(keeper), 7);
        Node[] nodes = new Node[14];
        nodes[0] = genesis;
        nodes[1] = genesis.next().time(1000001).mined();
        CHECKS.equal("one second later", nodes[1].to(keeper), 0);
        CHECKS.equal("of two the greater", nodes[1].next().time(1000001).mined().to(keeper), 7);
        nodes[2] = nodes[1].next().time(1000900).mined();
        CHECKS.equal("second", nodes[2].to(keeper), 0);
        CHECKS.equal("of three the middle", nodes[2].next().time(1000001).mined().to(keeper), 7);
        nodes[3] = nodes[2].next().time(1000002).mined();
        CHECKS.equal("above the middle, below the one before", nodes[3].to(keeper), 0);
        CHECKS.equal("of four the greater in the middle", nodes[3].next().time(1000002).mined().to(keeper), 7);
        nodes[4] = nodes[3].next().time(1000003).mined();
        CHECKS.equal("of four, above", nodes[4].to(keeper), 0);
        long high = 0x80000000L;
        nodes[5] = nodes[4].next().time(high).mined();
        CHECKS.equal("a time without sign", nodes[5].to(keeper), 0);
        CHECKS.equal("tip's time", keeper.tip(9), (int) high);
        for (int i = 6; i < 8; i++) {
            nodes[i] = nodes[i - 1].next().time(high + i).mined();
            CHECKS.equal("high " + i, nodes[i].to(keeper), 0);
        }
        CHECKS.equal("the greatest time", nodes[7].next().time(0xFFFFFFFFL).mined().to(keeper), 0);
    }

    private static void roots() {
        CoinKeeper keeper = new CoinKeeper();
        Node genesis = Node.genesis();
        CHECKS.equal("another root", genesis.next().root(new byte[32]).mined().to(keeper), 8);
        CHECKS.equal("no TXS and another root", genesis.next().empty().root(Bytes.many(1, 32)).mined().to(keeper), 8);
        CHECKS.equal("no TXS", genesis.next().empty().mined().to(keeper), 9);
        for (int txs = 2; txs <= 9; txs++) {
            List<Tx> all = new ArrayList<>();
            Tx coinbase = genesis.next().usualCoinbase(5, Tx.ONE);
            all.add(coinbase);
            for (int i = 1; i < txs; i++) {
                all.add(new Tx().in(Bytes.many(i, 32), 0).out(1));
            }
            CHECKS.equal(txs + " TXS", drafted(coinbase, all, 0).mined().to(new CoinKeeper()), 10);
            // The same root, as the last 1, 2 or 4 are written down once more.
            for (int again = 1; again <= 4; again *= 2) {
                if (txs % (2 * again) == again) {
                    CHECKS.equal(txs + " TXS and " + again, drafted(coinbase, all, again).mined().to(keeper), 8);
                }
            }
        }
        Node.Draft full = genesis.next().empty();
        for (int i = 0; i < 291; i++) {
            full.tx(new Tx().version(i));
        }
        CHECKS.equal("as many TXS as can be", full.mined().bytes.length, 2993);
        CHECKS.equal("as many TXS as can be, of nothing", full.mined().to(keeper), 9);
        CHECKS.equal("another root of them", full.root(new byte[32]).mined().to(keeper), 8);
        Tx alone = new Tx().in(Bytes.many(7, 32), 0).out(1);
        Tx first = genesis.next().usualCoinbase(5, Tx.ONE);
        CHECKS.equal("the same, but not put together", genesis.next().coinbase(first).tx(alone)
                .tx(new Tx().in(Bytes.many(8, 32), 0).out(1)).tx(alone).mined().to(keeper), 10);
    }

    private static Node.Draft drafted(Tx coinbase, List<Tx> all, int again) {
        List<byte[]> ids = new ArrayList<>();
        Node.Draft draft = Node.genesis().next().coinbase(coinbase);
        for (int i = 0; i < all.size(); i++) {
            ids.add(all.get(i).id());
            if (i > 0) {
                draft.tx(all.get(i));
            }
        }
        byte[] root = Node.root(ids);
        for (int i = all.size() - again; i < all.size(); i++) {
            draft.tx(all.get(i));
        }
        return draft.root(root);
    }

    private static void order() {
        CoinKeeper keeper = new CoinKeeper();
        Node genesis = Node.genesis();
        byte[] wrong = Bytes.many(9, 32);
        Tx unsound = new Tx().in(new byte[32], Tx.LAST).out(1);
        Node one = genesis.next().coinbase(genesis.next().usualCoinbase(Node.subsidy(1) + 1, Tx.ONE)).mined();
        CHECKS.equal("bad", one.to(keeper), 14);
        CHECKS.equal("1 ahead of 3", genesis.next().before(wrong).behind(Bytes.of(0)).mined().to(keeper), 1);
        CHECKS.equal("1 ahead of 2", answer(keeper, Bytes.join(one.bytes, Bytes.of(0))), 1);
        CHECKS.equal("2 ahead of 8", answer(keeper, Bytes.join(java.util.Arrays.copyOf(one.bytes, 80), Bytes.of(0))), 2);
        CHECKS.equal("3 ahead of 5", genesis.next().before(wrong).wrongBits(0).mined().to(keeper), 3);
        CHECKS.equal("4 ahead of 5", one.next().wrongBits(0).mined().to(keeper), 4);
        CHECKS.equal("5 ahead of 6", genesis.next().wrongBits(0x20700000).above().mined().to(keeper), 5);
        CHECKS.equal("6 ahead of 7", genesis.next().above().time(5).mined().to(keeper), 6);
        CHECKS.equal("7 ahead of 8", genesis.next().time(5).root(wrong).mined().to(keeper), 7);
        CHECKS.equal("8 ahead of 9", genesis.next().coinbase(unsound).root(wrong).mined().to(keeper), 8);
        CHECKS.equal("9 ahead of 14", genesis.next().coinbase(new Tx().in(new byte[32], Tx.LAST).out(1L << 50)).mined().to(keeper), 9);
        CHECKS.equal("one taken", keeper.count(0), 1);
        CHECKS.equal("tip", keeper.tip(8), 0);
    }
}
