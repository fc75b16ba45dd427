import java.math.BigInteger;
import java.util.ArrayList;
import java.util.List;

/** Makes the bytes of blocks: a node is a block that another one can be put on. */
public final class Node {
    public static final int LIMIT_BITS = 0x207FFFFF;
    /** Blocks so far apart keep the bits at their limit. */
    public static final long STEP = 1000;

    public final byte[] id;
    public final int height;
    public final long time;
    public final byte[] bytes;
    public final Tx coinbase;
    public final Node before;

    private Node(byte[] id, int height, long time, byte[] bytes, Tx coinbase, Node before) {
        this.id = id;
        this.height = height;
        this.time = time;
        this.bytes = bytes;
        this.coinbase = coinbase;
        this.before = before;
    }

    public static Node genesis() {
        return new Node(new byte[32], 0, 1000000, new byte[0], null, null);
    }

    public Draft next() {
        return new Draft(this);
    }

    /** Submits the block: the answer. */
    public int to(CoinKeeper keeper) {
        return Bytes.row(keeper, bytes).submit();
    }

    public static long subsidy(int height) {
        return 5000000000L >> height / 20;
    }

    public static byte[] heightScript(int height) {
        if (height <= 16) {
            return Bytes.of(80 + height, 0);
        }
        return height < 128 ? Bytes.of(1, height, 5) : Bytes.of(2, height & 255, height >> 8, 5);
    }

    public static BigInteger target(int bits) {
        return BigInteger.valueOf(bits & 0xFFFFFF).shiftLeft(8 * ((bits >>> 24) - 3));
    }

    public static byte[] root(List<byte[]> ids) {
        List<byte[]> row = ids;
        while (row.size() > 1) {
            List<byte[]> next = new ArrayList<>();
            for (int i = 0; i < row.size(); i += 2) {
                next.add(Bytes.hash(Bytes.join(row.get(i), row.get(Math.min(i + 1, row.size() - 1)))));
            }
            row = next;
        }
        return row.isEmpty() ? new byte[32] : row.get(0);
    }

    /** A block before it is mined: all of it can be made other than it should be. */
    public static final class Draft {
        private final Node before;
        private byte[] beforeId;
        private long time;
        private int bits = LIMIT_BITS;
        private int minedBits = LIMIT_BITS;
        private boolean above;
        private int near;
        private int firstNonce;
        private byte[] root;
        private byte[] count;
        private byte[] behind = new byte[0];
        private Tx coinbase;
        private boolean empty;
        private long fees;
        private int mark;
        private final List<Tx> txs = new ArrayList<>();

        private Draft(Node before) {
            this.before = before;
            beforeId = before.id;
            time = before.time + STEP;
        }

        public Draft before(byte[] id) {
            beforeId = id;
            return this;
        }

        public Draft time(long seconds) {
            time = seconds;
            return this;
        }

        public Draft bits(int wanted) {
            bits = wanted;
            minedBits = wanted;
            return this;
        }

        /** Bits that are not wanted, mined for easier ones. */
        public Draft wrongBits(int wrong) {
            bits = wrong;
            return this;
        }

        /** Not enough work. */
        public Draft above() {
            above = true;
            return this;
        }

        /** An ID that has the highest bytes, so many, of the target. */
        public Draft near(int bytes) {
            near = bytes;
            return this;
        }

        /** Where mining begins: near a nonce that was found before. */
        public Draft nonce(int first) {
            firstNonce = first;
            return this;
        }

        public Draft root(byte[] hash) {
            root = hash;
            return this;
        }

        public Draft count(byte[] bytes) {
            count = bytes;
            return this;
        }

        public Draft behind(byte[] bytes) {
            behind = bytes;
            return this;
        }

        public Draft coinbase(Tx tx) {
            coinbase = tx;
            return this;
        }

        /** Another coinbase than other blocks of the same height have. */
        public Draft mark(int number) {
            mark = number;
            return this;
        }

        public Draft empty() {
            empty = true;
            return this;
        }

        public Draft tx(Tx tx) {
            txs.add(tx);
            return this;
        }

        public Draft fees(long value) {
            fees = value;
            return this;
        }

        public int height() {
            return before.height + 1;
        }

        public Tx usualCoinbase(long value, byte[] script) {
            byte[] begin = Bytes.join(heightScript(height()), new Bytes().number(mark, 4).made());
            return new Tx().in(new byte[32], Tx.LAST, begin, Tx.LAST).out(value, script);
        }

        public Node mined() {
            Tx first = coinbase != null ? coinbase : usualCoinbase(subsidy(height()) + fees, Tx.ONE);
            List<Tx> all = new ArrayList<>();
            if (!empty) {
                all.add(first);
            }
            all.addAll(txs);
            List<byte[]> ids = new ArrayList<>();
            Bytes body = new Bytes();
            for (Tx tx : all) {
                ids.add(tx.id());
                body.add(tx.bytes());
            }
            byte[] head = new Bytes().number(2, 4).add(beforeId).add(root == null ? Node.root(ids) : root)
                    .number(time, 4).number(bits, 4).made();
            byte[] many = count == null ? new Bytes().count(all.size()).made() : count;
            byte[] header = worked(head);
            return new Node(Bytes.hash(header), height(), time, Bytes.join(header, many, body.made(), behind), first, before);
        }

        private byte[] worked(byte[] head) {
            BigInteger target = target(minedBits);
            for (int nonce = firstNonce;; nonce++) {
                byte[] header = new Bytes().add(head).number(nonce, 4).made();
                byte[] id = Bytes.hash(header);
                byte[] high = new byte[32];
                for (int i = 0; i < 32; i++) {
                    high[i] = id[31 - i];
                }
                BigInteger number = new BigInteger(1, high);
                int shift = 8 * ((minedBits >>> 24) - near);
                if (number.compareTo(target) > 0 == above
                        && (near == 0 || number.shiftRight(shift).equals(target.shiftRight(shift)))) {
                    return header;
                }
            }
        }
    }
}
