import java.math.BigInteger;
import java.util.ArrayList;
import java.util.List;

/** Terms, 1 BYTES: each sentence that names an edge has a method here, with the sentence above it, and both its sides. */
public final class EdgeBytesTest {
    private static final Checks CHECKS = new Checks("EdgeBytesTest");
    private static final int RIGHT_BUT_NOT_SOUND = 9;
    private static final int NOT_THERE = 10;
    private static final byte[] NOWHERE = Bytes.many(7, 32);

    public static void main(String[] args) {
        lowestByteFirst();
        countOfTxs();
        countOfInputs();
        countOfOutputs();
        countOfInputScript();
        countOfOutputScript();
        countThatEnds();
        hashAsNumber();
        partsOfTx();
        txAtEndOfRow();
        idOfTx();
        partsOfBlock();
        rootOfNone();
        rootOfOne();
        rootOfMany();
        targetIsNone();
        bitsOfNumber();
        workIsCut();
        CHECKS.close();
    }

    private static Node.Draft draft() {
        return Node.genesis().next();
    }

    private static int answer(byte[] bytes) {
        return Bytes.row(new CoinKeeper(), bytes).submit();
    }

    /** The answers for a COUNT at a place, which is now in as few bytes as it needs, and then in other ways. */
    private static void countAt(String what, byte[] block, int place, long many, int due) {
        int size = many < 253 ? 1 : 3;
        byte[] before = java.util.Arrays.copyOf(block, place);
        byte[] behind = java.util.Arrays.copyOfRange(block, place + size, block.length);
        byte[] inTwo = new Bytes().number(253, 1).number(many, 2).made();
        byte[] inFour = new Bytes().number(254, 1).number(many, 4).made();
        byte[] inEight = new Bytes().number(255, 1).number(many, 8).made();
        CHECKS.equal(what + " of " + many, answer(block), due);
        CHECKS.equal(what + " of " + many + " by 253", answer(Bytes.join(before, inTwo, behind)), many < 253 ? 1 : due);
        CHECKS.equal(what + " of " + many + " by 254", answer(Bytes.join(before, inFour, behind)), 1);
        CHECKS.equal(what + " of " + many + " by 255", answer(Bytes.join(before, inEight, behind)), 1);
        for (long other : new long[] {many - 1, many + 1}) {
            byte[] wrong = new Bytes().count(other).made();
            CHECKS.equal(what + " of " + other + " for " + many, answer(Bytes.join(before, wrong, behind)), 1);
        }
        byte[][] far = {Bytes.of(252), Bytes.of(253, 255, 255), Bytes.of(254, 0, 0, 1, 0), Bytes.of(254, 255, 255, 255, 127),
            Bytes.of(254, 0, 0, 0, 128), Bytes.of(254, 255, 255, 255, 255), Bytes.of(255, 255, 255, 255, 255, 255, 255, 255, 255)};
        for (byte[] wrong : far) {
            if (many != 252 || wrong.length > 1) {
                CHECKS.equal(what + " " + Bytes.text(wrong) + " for " + many, answer(Bytes.join(before, wrong, behind)), 1);
            }
        }
    }

    /** "numbers have the lowest byte first" */
    private static void lowestByteFirst() {
        CoinKeeper keeper = new CoinKeeper();
        Node.Draft draft = draft().time(0x01020304L);
        Tx coinbase = draft.usualCoinbase(0x04030201L, Tx.ONE);
        for (int i = 1; i <= 256; i++) {
            coinbase.out(i == 256 ? 256 : 0, Tx.NONE);
        }
        Node node = draft.coinbase(coinbase).mined();
        CHECKS.equal("257 OUTPUTS", node.to(keeper), 0);
        CHECKS.equal("time", keeper.tip(9), 0x01020304);
        Bytes.row(keeper, coinbase.id());
        CHECKS.equal("a value", keeper.unspent(0), 0x04030201L);
        CHECKS.equal("a value of its second byte", keeper.unspent(256), 256);
        CHECKS.equal("index 1", keeper.unspent(1), 0);
        for (int height = 2; height <= 5; height++) {
            node = node.next().mined();
            CHECKS.equal("height " + height, node.to(keeper), 0);
        }
        CHECKS.equal("spends index 1", node.next().mark(1).tx(new Tx().in(coinbase.id(), 1, Tx.ONE, 0).out(1)).mined().to(keeper), 12);
        CHECKS.equal("spends index 256", node.next().mark(2).tx(new Tx().in(coinbase.id(), 256, Tx.ONE, 0).out(1)).mined().to(keeper), 0);
    }

    /** "A COUNT is one byte below 253, 253 and two, 254 and four (255 is none here); never in more bytes than it needs." Of TXS. */
    private static void countOfTxs() {
        for (int many : new int[] {1, 2, 252, 253, 254, 255, 256}) {
            Node.Draft draft = draft().empty();
            for (int i = 0; i < many; i++) {
                draft.tx(new Tx().version(i));
            }
            countAt("TXS", draft.mined().bytes, 80, many, RIGHT_BUT_NOT_SOUND);
        }
    }

    /** The same of INPUTS, of which 3000 bytes have 70 at most. */
    private static void countOfInputs() {
        for (int many : new int[] {1, 2, 68}) {
            Tx tx = new Tx();
            for (int i = 0; i < many; i++) {
                tx.in(NOWHERE, i);
            }
            Node.Draft draft = draft().coinbase(tx.out(1));
            countAt("INPUTS", draft.mined().bytes, 85, many, RIGHT_BUT_NOT_SOUND);
        }
    }

    /** The same of OUTPUTS. */
    private static void countOfOutputs() {
        for (int many : new int[] {1, 2, 252, 253, 254, 255, 256}) {
            Tx coinbase = new Tx().in(new byte[32], Tx.LAST, Bytes.of(81, 0), 0);
            for (int i = 0; i < many; i++) {
                coinbase.out(i, Tx.NONE);
            }
            countAt("OUTPUTS", draft().coinbase(coinbase).mined().bytes, 129, many, 0);
        }
    }

    /** The same of an INPUT's script: the coinbase's at 122, and one of a TX behind it. */
    private static void countOfInputScript() {
        for (int many : new int[] {2, 3, 99, 100}) {
            byte[] script = Bytes.join(Bytes.of(81), Bytes.many(97, many - 1));
            Tx coinbase = new Tx().in(new byte[32], Tx.LAST, script, 0).out(1);
            countAt("a coinbase's script", draft().coinbase(coinbase).mined().bytes, 122, many, 0);
        }
        Node.Draft draft = draft();
        int place = draft.mined().bytes.length + 4 + 1 + 36;
        for (int many : new int[] {0, 1, 252, 253, 254, 255, 256, 1000}) {
            Tx tx = new Tx().in(NOWHERE, 0, Bytes.many(97, many), 0).out(1);
            if (many > 0) {
                countAt("an INPUT's script", draft().tx(tx).mined().bytes, place, many, NOT_THERE);
            } else {
                CHECKS.equal("an INPUT's script of none", draft().tx(tx).mined().to(new CoinKeeper()), NOT_THERE);
            }
        }
    }

    /** The same of an OUTPUT's script. */
    private static void countOfOutputScript() {
        for (int many : new int[] {1, 2, 252, 253, 254, 255, 256, 1000}) {
            Tx coinbase = new Tx().in(new byte[32], Tx.LAST, Bytes.of(81, 0), 0).out(1, Bytes.many(97, many));
            countAt("an OUTPUT's script", draft().coinbase(coinbase).mined().bytes, 138, many, 0);
        }
    }

    /** The same, where the bytes end within the COUNT. */
    private static void countThatEnds() {
        byte[] header = java.util.Arrays.copyOf(draft().empty().mined().bytes, 80);
        CHECKS.equal("0", answer(Bytes.join(header, Bytes.of(0))), RIGHT_BUT_NOT_SOUND);
        byte[][] wrong = {Bytes.of(), Bytes.of(253), Bytes.of(253, 253), Bytes.of(254), Bytes.of(254, 0, 0, 1), Bytes.of(255),
            Bytes.of(255, 0, 0, 0, 0, 0, 0, 0), Bytes.of(253, 0, 0), Bytes.of(254, 0, 0, 0, 0), Bytes.of(255, 0, 0, 0, 0, 0, 0, 0, 0)};
        for (byte[] count : wrong) {
            CHECKS.equal("a COUNT " + Bytes.text(count), answer(Bytes.join(header, count)), 1);
        }
    }

    /** "HASH is SHA-256 of SHA-256; as a number its first byte is the lowest." So its last byte is against the TARGET's highest, 7F. */
    private static void hashAsNumber() {
        boolean[] seen = new boolean[2];
        for (int mark = 0; mark < 40; mark++) {
            Node below = draft().mark(mark).mined();
            CHECKS.that("the last byte is below 80", below.id[31] >= 0);
            CHECKS.equal("a HASH below", below.to(new CoinKeeper()), 0);
            Node above = draft().mark(mark).above().mined();
            CHECKS.that("the last byte is 80 or above", above.id[31] < 0);
            CHECKS.equal("a HASH above", above.to(new CoinKeeper()), 6);
            seen[0] |= below.id[0] < 0;
            seen[1] |= above.id[0] >= 0;
        }
        CHECKS.that("the first byte was the other way round, too", seen[0] && seen[1]);
    }

    /** "A TX is a version (4 bytes), a COUNT of INPUTS (..; a sequence, 4), a COUNT of OUTPUTS (..), a locktime (4)": any numbers. */
    private static void partsOfTx() {
        for (long version : new long[] {0, 1, 0x7FFFFFFFL, 0x80000000L, Tx.LAST}) {
            Tx coinbase = draft().usualCoinbase(1, Tx.ONE).version(version);
            CHECKS.equal("version " + version, draft().coinbase(coinbase).mined().to(new CoinKeeper()), 0);
        }
        for (long sequence : new long[] {0, 1, 0x80000000L, Tx.LAST - 1, Tx.LAST}) {
            Tx coinbase = new Tx().in(new byte[32], Tx.LAST, Bytes.of(81, 0), sequence).out(1);
            CHECKS.equal("sequence " + sequence, draft().coinbase(coinbase).mined().to(new CoinKeeper()), 0);
        }
        Tx last = new Tx().in(NOWHERE, 0).out(1);
        byte[] whole = draft().tx(last).mined().bytes;
        for (int less = 1; less <= last.bytes().length; less++) {
            CHECKS.equal("a TX without its last bytes: " + less, answer(java.util.Arrays.copyOf(whole, whole.length - less)), 1);
        }
        CHECKS.equal("a whole TX", answer(whole), NOT_THERE);
        byte[] rich = richTx().bytes();
        whole = draft().tx(richTx()).mined().bytes;
        for (int less = 1; less <= rich.length; less++) {
            CHECKS.equal("a rich TX without its last bytes: " + less, answer(java.util.Arrays.copyOf(whole, whole.length - less)), 1);
        }
        CHECKS.equal("a whole rich TX", answer(whole), NOT_THERE);
    }

    /** A TX that has two of all, and COUNTS of both sizes. */
    private static Tx richTx() {
        return new Tx().in(NOWHERE, 0, Bytes.many(97, 50), 0).in(NOWHERE, 1, Bytes.many(97, 253), 0).out(1, Bytes.many(97, 50))
                .out(2, Bytes.many(97, 253));
    }

    /** The same where THE ROW is full: 3000 bytes, of which the last are the first ones of a TX. */
    private static void txAtEndOfRow() {
        byte[] rich = richTx().bytes();
        for (int there = 1; there <= rich.length; there++) {
            Tx coinbase = new Tx().in(new byte[32], Tx.LAST, Bytes.of(81, 0), 0);
            int left = 3000 - there - draft().coinbase(coinbase).mined().bytes.length;
            coinbase.out(1, Bytes.many(97, 700)).out(1, Bytes.many(97, 700)).out(1, Bytes.many(97, left - 711 - 711 - 11));
            byte[] block = draft().coinbase(coinbase).tx(richTx()).mined().bytes;
            CHECKS.equal("a full row", block.length - rich.length + there, 3000);
            int due = there == rich.length ? NOT_THERE : 1;
            CHECKS.equal("of the TX " + there, answer(java.util.Arrays.copyOf(block, 3000)), due);
        }
    }

    /** "Its ID is its HASH." */
    private static void idOfTx() {
        CoinKeeper keeper = new CoinKeeper();
        Node node = draft().mined();
        CHECKS.equal("taken", node.to(keeper), 0);
        Bytes.row(keeper, node.coinbase.id());
        CHECKS.equal("by its ID", keeper.unspent(0), Node.subsidy(1));
        for (int place = 0; place < 32; place++) {
            byte[] other = node.coinbase.id();
            other[place] ^= (byte) (place % 2 == 0 ? 1 : 128);
            Bytes.row(keeper, other);
            CHECKS.thrown("by another ID, byte " + place, java.util.NoSuchElementException.class, () -> keeper.unspent(0));
        }
    }

    /** "A BLOCK is a HEADER (..), a COUNT of TXS, these, nothing more. Its ID is the HASH of its HEADER." */
    private static void partsOfBlock() {
        Node node = draft().mined();
        byte[] none = draft().empty().mined().bytes;
        CHECKS.equal("HEADER and COUNT", none.length, 81);
        CHECKS.equal("HEADER and COUNT alone", answer(none), RIGHT_BUT_NOT_SOUND);
        CHECKS.equal("HEADER alone", answer(java.util.Arrays.copyOf(none, 80)), 1);
        CHECKS.equal("HEADER less a byte", answer(java.util.Arrays.copyOf(none, 79)), 1);
        CHECKS.equal("HEADER, COUNT and a byte", answer(java.util.Arrays.copyOf(none, 82)), 1);
        CHECKS.equal("nothing", answer(new byte[0]), 1);
        CHECKS.equal("all but a byte", answer(java.util.Arrays.copyOf(node.bytes, node.bytes.length - 1)), 1);
        CHECKS.equal("one byte more", answer(java.util.Arrays.copyOf(node.bytes, node.bytes.length + 1)), 1);
        CoinKeeper keeper = new CoinKeeper();
        CHECKS.equal("all", node.to(keeper), 0);
        for (int k = 0; k < 8; k++) {
            CHECKS.equal("its ID " + k, keeper.tip(k), Bytes.word(Bytes.hash(java.util.Arrays.copyOf(node.bytes, 80)), k));
        }
        fullRow(2999);
        fullRow(3000);
    }

    /** A block as long as THE ROW can be. */
    private static void fullRow(int size) {
        Tx coinbase = new Tx().in(new byte[32], Tx.LAST, Bytes.of(81, 0), 0);
        coinbase.out(1, Bytes.many(97, 1000)).out(1, Bytes.many(97, 1000)).out(1, Bytes.many(97, size - 2167));
        Node node = draft().coinbase(coinbase).mined();
        CHECKS.equal("its bytes", node.bytes.length, size);
        CHECKS.equal("a block of " + size, node.to(new CoinKeeper()), 0);
    }

    /** "(of none: 32 times 0)" */
    private static void rootOfNone() {
        CHECKS.equal("32 times 0", draft().empty().root(new byte[32]).mined().to(new CoinKeeper()), RIGHT_BUT_NOT_SOUND);
        for (int place = 0; place < 32; place++) {
            byte[] other = new byte[32];
            other[place] = 1;
            CHECKS.equal("a 1 at " + place, draft().empty().root(other).mined().to(new CoinKeeper()), 8);
        }
    }

    /** "THE ROOT: of a row of HASHES (first the IDS) .. until there is one": of one TX it is its ID. */
    private static void rootOfOne() {
        byte[] id = draft().usualCoinbase(Node.subsidy(1), Tx.ONE).id();
        CHECKS.equal("the ID", draft().root(id).mined().to(new CoinKeeper()), 0);
        CHECKS.equal("the HASH of it twice", draft().root(Bytes.hash(Bytes.join(id, id))).mined().to(new CoinKeeper()), 8);
        for (int place = 0; place < 32; place++) {
            byte[] other = id.clone();
            other[place] ^= (byte) 128;
            CHECKS.equal("another at " + place, draft().root(other).mined().to(new CoinKeeper()), 8);
        }
    }

    /** "the next row is the HASH of each two, one behind the other (the last one with itself, if it is alone)" */
    private static void rootOfMany() {
        for (int many = 2; many <= 17; many++) {
            List<byte[]> ids = new ArrayList<>();
            Node.Draft draft = draft();
            Tx coinbase = draft.usualCoinbase(5, Tx.ONE);
            draft.coinbase(coinbase);
            ids.add(coinbase.id());
            for (int i = 1; i < many; i++) {
                Tx tx = new Tx().in(Bytes.many(i, 32), 0).out(1);
                draft.tx(tx);
                ids.add(tx.id());
            }
            CHECKS.equal("of " + many, draft.root(Node.root(ids)).mined().to(new CoinKeeper()), NOT_THERE);
            byte[] other = Node.root(ids);
            other[many] ^= 1;
            CHECKS.equal("another of " + many, draft.root(other).mined().to(new CoinKeeper()), 8);
            java.util.Collections.swap(ids, many - 1, many - 2);
            CHECKS.equal("of " + many + ", the last two changed", draft.root(Node.root(ids)).mined().to(new CoinKeeper()), 8);
        }
        // Three: the last one is put together with itself, not left as it is.
        Tx first = draft().usualCoinbase(5, Tx.ONE);
        Tx second = new Tx().in(NOWHERE, 0).out(1);
        Tx third = new Tx().in(NOWHERE, 1).out(1);
        byte[] two = Bytes.hash(Bytes.join(first.id(), second.id()));
        byte[] one = Bytes.hash(Bytes.join(third.id(), third.id()));
        Node.Draft three = draft().coinbase(first).tx(second).tx(third);
        CHECKS.equal("alone with itself", three.root(Bytes.hash(Bytes.join(two, one))).mined().to(new CoinKeeper()), NOT_THERE);
        CHECKS.equal("alone as it is", three.root(Bytes.hash(Bytes.join(two, third.id()))).mined().to(new CoinKeeper()), 8);
    }

    /** "none if m has its highest bit (of 24), if it is 0, or above LIMIT, that of 207FFFFF": none of them is ever wanted. */
    private static void targetIsNone() {
        for (int bits : new int[] {0x20800000, 0x20FFFFFF, 0x20000000, 0, 0x21000080, 0x217FFFFF, 0xFF7FFFFF, 0x2100007F, 0x207FFFFE,
            0x1F7FFFFF, 0x03000001, 0x027FFFFF, 0x017FFFFF}) {
            CHECKS.equal("bits " + Integer.toHexString(bits), draft().wrongBits(bits).mined().to(new CoinKeeper()), 5);
        }
        CHECKS.equal("LIMIT", draft().wrongBits(0x207FFFFF).mined().to(new CoinKeeper()), 0);
    }

    /** "The bits of a number: e the least for which m would have at most three bytes, one more if m had its highest bit then" */
    private static void bitsOfNumber() {
        Spans low = Spans.begun().by(1200).by(1200).by(1200);
        CHECKS.equal("a 64th of LIMIT", low.wanted(), 0x2001FFFF);
        Spans[] ends = {low.copied().by(1200), low.copied().by(1201), low.copied().by(2400), low.copied().by(2401), low.copied().by(4800)};
        int[] due = {0x1F7FFFC0, 0x2000801B, 0x2000FFFF, 0x2001001A, 0x2001FFFF};
        for (int i = 0; i < ends.length; i++) {
            CHECKS.equal("bits " + i, ends[i].wanted(), due[i]);
            CHECKS.equal("a block of other bits " + i, ends[i].next(due[i] ^ 1), 5);
            CHECKS.equal("a block of them " + i, ends[i].next(due[i]), 0);
            CHECKS.equal("they are the tip's " + i, ends[i].keeper.tip(10), due[i]);
        }
        // Just where three bytes end, and where m has its highest bit.
        long[][] spans = {{1580, 1616, 1226, 1278, 2488}, {1310, 1519, 1468, 1331, 2560}, {1576, 1385, 1201, 1582}, {1262, 1433, 1493, 1536}};
        int[] edges = {0x1F7FFFFF, 0x20008000, 0x2000FFFF, 0x20010000};
        for (int i = 0; i < spans.length; i++) {
            Spans chain = Spans.begun();
            for (long took : spans[i]) {
                chain.by(took);
            }
            CHECKS.equal("at the edge " + i, chain.wanted(), edges[i]);
            long before = chain.keeper.count(4);
            CHECKS.equal("a block at the edge " + i, chain.next(edges[i]), 0);
            CHECKS.equal("its WORK " + i, chain.keeper.count(4) - before, work(edges[i]));
        }
        // A quarter of 1F7FFFC0 keeps its e; four times as much has one more.
        Spans least = Spans.begun().by(1200).by(1200).by(1200).by(1200);
        CHECKS.equal("a quarter", least.copied().by(1200).wanted(), 0x1F1FFFF0);
        CHECKS.equal("four times", least.copied().by(19200).wanted(), 0x2001FFFF);
    }

    private static long work(int bits) {
        BigInteger one = BigInteger.ONE;
        return one.shiftLeft(256).divide(Node.target(bits).add(one)).longValue();
    }

    /** "WORK of bits is 2^256 / (TARGET + 1) (cut)": of a TARGET of 2^253 it is 7, of one that is less 8. */
    private static void workIsCut() {
        Spans even = Spans.begun().by(4273).by(1348);
        CHECKS.equal("TARGET 2^253", even.wanted(), 0x20200000);
        long before = even.keeper.count(4);
        CHECKS.equal("a block of it", even.next(0x20200000), 0);
        CHECKS.equal("its WORK", even.keeper.count(4) - before, 7);
        Spans below = Spans.begun().by(1200);
        CHECKS.equal("a TARGET below", below.wanted(), 0x201FFFFF);
        before = below.keeper.count(4);
        CHECKS.equal("a block of that", below.next(0x201FFFFF), 0);
        CHECKS.equal("WORK of that", below.keeper.count(4) - before, 8);
        CHECKS.equal("WORK of LIMIT", new CoinKeeper().count(4), 2);
    }
}
