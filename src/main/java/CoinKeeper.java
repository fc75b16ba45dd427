import java.util.ArrayList;
import java.util.NoSuchElementException;

/** A keeper of a chain as Bitcoin's before SegWit: what it does is said in the project's document. */
public final class CoinKeeper {
    private static final int ROW_LIMIT = 3000;
    private static final int SCRIPT_LIMIT = 1000;
    private static final int TAKEN_LIMIT = 200;
    private static final int BYTES_LIMIT = 100000;
    private static final int HEADER = 80;
    private static final int MATURITY = 5;

    private static final int NOT_RIGHT = 1;
    private static final int ALREADY_THERE = 2;
    private static final int NONE_BEFORE = 3;
    private static final int BAD_BEFORE = 4;
    private static final int WRONG_BITS = 5;
    private static final int ABOVE_TARGET = 6;
    private static final int TOO_EARLY = 7;
    private static final int WRONG_ROOT = 8;
    private static final int NOT_SOUND = 9;
    private static final int NOT_UNSPENT = 10;
    private static final int NOT_RIPE = 11;
    private static final int TOO_MUCH_OUT = 12;
    private static final int SCRIPT_FAILS = 13;
    private static final int TOO_MUCH_MADE = 14;

    private final byte[] row = new byte[ROW_LIMIT];
    private int rowLength;
    private final byte[] id = new byte[32];
    private final Sha256 sha = new Sha256();
    private final Signatures signatures = new Signatures();
    private final Machine machine = new Machine(sha, signatures);
    private final Layout layout = new Layout();
    private final Ledger ledger = new Ledger();
    private final ArrayList<Block> blocks = new ArrayList<Block>();
    private final Coin[] spent = new Coin[Layout.INS];
    private Block tip;
    private int takenBytes;
    private int checkedTxs;

    public CoinKeeper() {
        tip = new Block(null, new byte[0], new byte[32], new byte[0]);
        blocks.add(tip);
    }

    public int feed(int a, int b, int c, int d, int e) throws IllegalStateException {
        if (rowLength + 20 > ROW_LIMIT) {
            throw new IllegalStateException();
        }
        append(a);
        append(b);
        append(c);
        append(d);
        append(e);
        return rowLength;
    }

    public int end(int n) throws IllegalArgumentException {
        if (n < 0 || n > rowLength) {
            throw new IllegalArgumentException();
        }
        rowLength = n;
        return n;
    }

    public int submit() throws IllegalStateException {
        if (blocks.size() > TAKEN_LIMIT || takenBytes + rowLength > BYTES_LIMIT) {
            throw new IllegalStateException();
        }
        int length = rowLength;
        rowLength = 0;
        int why = refusal(length);
        if (why != 0) {
            return why;
        }
        Block block = take(length);
        if (block.work <= tip.work) {
            return 1;
        }
        Block parting = block.meets(tip);
        ledger.rollBack(parting.mark);
        for (int height = parting.height + 1; height <= block.height; height++) {
            Block next = block.ancestor(height);
            why = connect(next);
            // A block's branch never changes, so its scripts need to hold only once.
            if (!next.valid && !scriptsHold()) {
                why = SCRIPT_FAILS;
            }
            if (why != 0) {
                spoil(next);
                comeBack(parting);
                return why;
            }
            next.valid = true;
        }
        tip = block;
        return 0;
    }

    public boolean script(int n) throws IllegalArgumentException {
        if (n < 0 || n > rowLength || n > SCRIPT_LIMIT || rowLength - n > SCRIPT_LIMIT) {
            throw new IllegalArgumentException();
        }
        machine.load(0, row, 0, n);
        machine.load(1, row, n, rowLength);
        machine.spendNothing();
        rowLength = 0;
        return machine.run(0) && machine.run(1) && machine.endsTrue();
    }

    public int hash(int k) throws IllegalArgumentException {
        if (k < 0 || k > 7) {
            throw new IllegalArgumentException();
        }
        sha.twice(row, 0, rowLength, id, 0);
        return word(id, 4 * k);
    }

    public int tip(int k) throws IllegalArgumentException {
        if (k < 0 || k > 11) {
            throw new IllegalArgumentException();
        }
        if (k < 8) {
            return word(tip.id, 4 * k);
        }
        if (k == 8) {
            return tip.height;
        }
        if (k == 9) {
            return (int) tip.time;
        }
        return k == 10 ? tip.bits : tip.wantedBits();
    }

    public long unspent(int i) throws IllegalArgumentException, NoSuchElementException {
        if (rowLength != 32) {
            throw new IllegalArgumentException();
        }
        Coin coin = ledger.find(row, 0, i);
        if (coin == null) {
            throw new NoSuchElementException();
        }
        return coin.value;
    }

    public long count(int what) throws IllegalArgumentException {
        if (what < 0 || what > 5) {
            throw new IllegalArgumentException();
        }
        if (what == 0) {
            return blocks.size() - 1;
        }
        if (what == 1) {
            return badBlocks();
        }
        if (what == 2) {
            return ledger.size();
        }
        if (what == 3) {
            return ledger.values();
        }
        return what == 4 ? tip.work : rowLength;
    }

    public long digest() {
        return ledger.sum();
    }

    public boolean signed(int n) throws IllegalArgumentException {
        if (n < 0 || n > 100 || rowLength < 32 + n + 1 || rowLength > 32 + n + 80) {
            throw new IllegalArgumentException();
        }
        return signatures.verify(row, 0, 32, n, 32 + n, rowLength - 32 - n);
    }

    private void append(int four) {
        for (int shift = 24; shift >= 0; shift -= 8) {
            row[rowLength] = (byte) (four >>> shift);
            rowLength++;
        }
    }

    /** Why THE ROW is no block that can be taken, or 0; layout and id tell of it then. */
    private int refusal(int length) {
        if (!layout.read(row, length)) {
            return NOT_RIGHT;
        }
        sha.twice(row, 0, HEADER, id, 0);
        if (blockOf(id, 0) != null) {
            return ALREADY_THERE;
        }
        Block before = blockOf(row, 4);
        if (before == null) {
            return NONE_BEFORE;
        }
        if (before.bad) {
            return BAD_BEFORE;
        }
        int bits = word(row, 72);
        if (bits != before.wantedBits()) {
            return WRONG_BITS;
        }
        if (Block.isAbove(id, bits)) {
            return ABOVE_TARGET;
        }
        long time = word(row, 68) & 0xFFFFFFFFL;
        if (time <= before.median()) {
            return TOO_EARLY;
        }
        if (!layout.rootIsRight(sha)) {
            return WRONG_ROOT;
        }
        return layout.isSound(before.height + 1, time) ? 0 : NOT_SOUND;
    }

    private Block blockOf(byte[] from, int at) {
        for (int i = 0; i < blocks.size(); i++) {
            if (same(blocks.get(i).id, 0, from, at, 32)) {
                return blocks.get(i);
            }
        }
        return null;
    }

    private Block take(int length) {
        byte[] raw = new byte[length];
        System.arraycopy(row, 0, raw, 0, length);
        Block block = new Block(blockOf(row, 4), raw, id.clone(), layout.ids(sha));
        block.coins = new Coin[layout.firstOut[layout.txs]];
        for (int t = 0; t < layout.txs; t++) {
            for (int out = layout.firstOut[t]; out < layout.firstOut[t + 1]; out++) {
                block.coins[out] = new Coin(block, t, out, layout);
            }
        }
        blocks.add(block);
        takenBytes += length;
        return block;
    }

    /**
     * Does a block, whatever its scripts say: 0, or why it is not valid. Its places are in layout then, the coins of
     * its inputs in spent, and checkedTxs is how many TXS were done.
     */
    private int connect(Block block) {
        layout.read(block.raw, block.raw.length);
        long left = 0;
        checkedTxs = 0;
        for (int t = 0; t < layout.txs; t++) {
            if (t > 0) {
                int why = collect(block, t);
                if (why != 0) {
                    return why;
                }
                long surplus = spentValue(t) - layout.valueOut(t);
                if (surplus < 0) {
                    return TOO_MUCH_OUT;
                }
                left += surplus;
            }
            exchange(block, t);
            checkedTxs++;
        }
        block.mark = ledger.mark();
        return layout.valueOut(0) > block.subsidy() + left ? TOO_MUCH_MADE : 0;
    }

    private int collect(Block block, int t) {
        for (int in = layout.firstIn[t]; in < layout.firstIn[t + 1]; in++) {
            spent[in] = ledger.find(block.raw, layout.inAt[in], word(block.raw, layout.inAt[in] + 32));
            if (spent[in] == null) {
                return NOT_UNSPENT;
            }
        }
        for (int in = layout.firstIn[t]; in < layout.firstIn[t + 1]; in++) {
            if (spent[in].ofCoinbase && block.height - spent[in].block.height < MATURITY) {
                return NOT_RIPE;
            }
        }
        return 0;
    }

    private long spentValue(int t) {
        long sum = 0;
        for (int in = layout.firstIn[t]; in < layout.firstIn[t + 1]; in++) {
            sum += spent[in].value;
        }
        return sum;
    }

    private void exchange(Block block, int t) {
        if (t > 0) {
            for (int in = layout.firstIn[t]; in < layout.firstIn[t + 1]; in++) {
                ledger.flip(spent[in]);
            }
        }
        for (int out = layout.firstOut[t]; out < layout.firstOut[t + 1]; out++) {
            ledger.put(block.coins[out]);
        }
    }

    /** Whether the scripts of the checked TXS of the block that was connected last leave something true. */
    private boolean scriptsHold() {
        for (int t = 1; t < checkedTxs; t++) {
            for (int in = layout.firstIn[t]; in < layout.firstIn[t + 1]; in++) {
                Coin coin = spent[in];
                machine.load(0, layout.raw, layout.inScript[in], layout.inEnd[in]);
                machine.load(1, coin.block.raw, coin.scriptAt, coin.scriptEnd);
                machine.spend(layout, t, in, coin);
                if (!machine.run(0) || !machine.run(1) || !machine.endsTrue()) {
                    return false;
                }
            }
        }
        return true;
    }

    private void spoil(Block block) {
        block.bad = true;
        // A block stands behind the one before it in the list, so one way through finds all behind the bad one.
        for (int i = 1; i < blocks.size(); i++) {
            Block other = blocks.get(i);
            if (other.before != null && other.before.bad) {
                other.bad = true;
            }
        }
    }

    private void comeBack(Block parting) {
        ledger.rollBack(parting.mark);
        for (int height = parting.height + 1; height <= tip.height; height++) {
            connect(tip.ancestor(height));
        }
    }

    private int badBlocks() {
        int many = 0;
        for (int i = 0; i < blocks.size(); i++) {
            if (blocks.get(i).bad) {
                many++;
            }
        }
        return many;
    }

    private static int word(byte[] from, int at) {
        return from[at] & 255 | (from[at + 1] & 255) << 8 | (from[at + 2] & 255) << 16 | from[at + 3] << 24;
    }

    private static boolean same(byte[] a, int at, byte[] b, int bt, int length) {
        for (int i = 0; i < length; i++) {
            if (a[at + i] != b[bt + i]) {
                return false;
            }
        }
        return true;
    }

    /** A TAKEN block, or the genesis, which has no bytes. */
    private static final class Block {
        static final int LIMIT_BITS = 0x207FFFFF;
        static final int PERIOD = 8;
        static final long PERIOD_TIME = 4800;
        static final int MEDIAN_OF = 11;

        final Block before;
        final byte[] raw;
        final byte[] id;
        final byte[] ids;
        final int height;
        final long time;
        final int bits;
        final long work;
        Coin[] coins;
        boolean bad;
        boolean valid;
        /** How many changes the ledger had seen when this block had been done. */
        int mark;

        Block(Block before, byte[] raw, byte[] id, byte[] ids) {
            this.before = before;
            this.raw = raw;
            this.id = id;
            this.ids = ids;
            boolean first = before == null;
            height = first ? 0 : before.height + 1;
            time = first ? 1000000 : word(raw, 68) & 0xFFFFFFFFL;
            bits = first ? LIMIT_BITS : word(raw, 72);
            work = workOf(bits) + (first ? 0 : before.work);
        }

        Block ancestor(int wanted) {
            Block found = this;
            while (found.height > wanted && found.before != null) {
                found = found.before;
            }
            return found;
        }

        Block meets(Block other) {
            int common = Math.min(height, other.height);
            Block mine = ancestor(common);
            Block its = other.ancestor(common);
            while (mine != its && mine.before != null && its.before != null) {
                mine = mine.before;
                its = its.before;
            }
            return mine;
        }

        long subsidy() {
            return 5000000000L >> height / 20;
        }

        /** The median of this block's time and those of the ten before it. */
        long median() {
            long[] times = new long[MEDIAN_OF];
            int many = 0;
            for (Block block = this; block != null && many < MEDIAN_OF; block = block.before) {
                int place = many;
                while (place > 0 && times[place - 1] > block.time) {
                    times[place] = times[place - 1];
                    place--;
                }
                times[place] = block.time;
                many++;
            }
            return times[many / 2];
        }

        int wantedBits() {
            if ((height + 1) % PERIOD != 0) {
                return bits;
            }
            long took = time - ancestor(height + 1 - PERIOD).time;
            return scaledBits(bits, Math.max(PERIOD_TIME / 4, Math.min(PERIOD_TIME * 4, took)));
        }

        /**
         * The bits of the target of bits, times took, by PERIOD_TIME. Two bytes below those of m are enough to tell the
         * three highest of the product; the target has them, as e does not fall below 26 within 200 blocks.
         */
        static int scaledBits(int bits, long took) {
            long m = ((bits & 0xFFFFFF) * took << 16) / PERIOD_TIME;
            int e = (bits >>> 24) - 2;
            while (m > 0xFFFFFF) {
                m >>= 8;
                e++;
            }
            if (m > 0x7FFFFF) {
                m >>= 8;
                e++;
            }
            return e > LIMIT_BITS >>> 24 ? LIMIT_BITS : e << 24 | (int) m;
        }

        /**
         * 2^256 / (m 256^k + 1): as 2^256 / (m 256^k), one less where that has no rest. Within 200 blocks no target
         * falls below 2^204, so all work together stays below 2^63.
         */
        static long workOf(int bits) {
            long m = bits & 0x7FFFFF;
            if (m == 0) {
                return 0;
            }
            long quotient = 0;
            long rest = 1;
            for (int k = (bits >>> 24) - 3; k < 32; k++) {
                rest <<= 8;
                quotient = (quotient << 8) + rest / m;
                rest %= m;
            }
            return rest == 0 ? quotient - 1 : quotient;
        }

        static boolean isAbove(byte[] id, int bits) {
            int lowest = (bits >>> 24) - 3;
            for (int i = 31; i >= 0; i--) {
                int place = i - lowest;
                int ofTarget = place < 0 || place > 2 ? 0 : bits >>> 8 * place & 255;
                if ((id[i] & 255) != ofTarget) {
                    return (id[i] & 255) > ofTarget;
                }
            }
            return false;
        }
    }

    /** An output. */
    private static final class Coin {
        final Block block;
        final int idAt;
        final int idWord;
        final int index;
        final long value;
        final boolean ofCoinbase;
        /** Where the script's COUNT is in the block's bytes, the script, and its end. */
        final int countAt;
        final int scriptAt;
        final int scriptEnd;
        /** Its place among the unspent ones, or -1. */
        int slot = -1;

        Coin(Block block, int t, int out, Layout layout) {
            this.block = block;
            idAt = 32 * t;
            idWord = word(block.ids, idAt);
            index = out - layout.firstOut[t];
            value = layout.value(out);
            ofCoinbase = t == 0;
            countAt = layout.outAt[out] + 8;
            scriptAt = layout.outScript[out];
            scriptEnd = layout.outEnd[out];
        }
    }

    /** What is unspent, and all changes that led to it: each made a coin unspent that was not, or the reverse. */
    private static final class Ledger {
        private final ArrayList<Coin> unspent = new ArrayList<Coin>();
        private final ArrayList<Coin> changes = new ArrayList<Coin>();

        Coin find(byte[] from, int at, int index) {
            int idWord = word(from, at);
            for (int i = 0; i < unspent.size(); i++) {
                Coin coin = unspent.get(i);
                if (coin.idWord == idWord && coin.index == index && same(coin.block.ids, coin.idAt, from, at, 32)) {
                    return coin;
                }
            }
            return null;
        }

        void put(Coin coin) {
            Coin old = find(coin.block.ids, coin.idAt, coin.index);
            if (old != null) {
                flip(old);
            }
            flip(coin);
        }

        void flip(Coin coin) {
            changes.add(coin);
            change(coin);
        }

        int mark() {
            return changes.size();
        }

        void rollBack(int mark) {
            for (int i = changes.size() - 1; i >= mark; i--) {
                change(changes.remove(i));
            }
        }

        private void change(Coin coin) {
            if (coin.slot < 0) {
                coin.slot = unspent.size();
                unspent.add(coin);
                return;
            }
            Coin last = unspent.remove(unspent.size() - 1);
            if (last != coin) {
                unspent.set(coin.slot, last);
                last.slot = coin.slot;
            }
            coin.slot = -1;
        }

        int size() {
            return unspent.size();
        }

        long values() {
            long sum = 0;
            for (int i = 0; i < unspent.size(); i++) {
                sum += unspent.get(i).value;
            }
            return sum;
        }

        long sum() {
            long sum = 0;
            for (int i = 0; i < unspent.size(); i++) {
                Coin coin = unspent.get(i);
                long x = (31L * coin.idWord + coin.index) * 31 + coin.value;
                sum += x * x + x;
            }
            return sum;
        }
    }

    /** Where the parts of a block are in its bytes, and whether they are sound. */
    private static final class Layout {
        static final int TX_BYTES = 10;
        static final int IN_BYTES = 41;
        static final int OUT_BYTES = 9;
        static final int TXS = ROW_LIMIT / TX_BYTES;
        static final int INS = ROW_LIMIT / IN_BYTES;
        static final int OUTS = ROW_LIMIT / OUT_BYTES;
        static final long VALUE_LIMIT = 2100000000000000L;
        static final int SIGS_LIMIT = 40;
        static final long TIME_LOCK = 500000000;

        byte[] raw;
        int txs;
        /** Of a TX: where it begins, its first input, its first output; the next entry says where they end. */
        final int[] txAt = new int[TXS + 1];
        final int[] firstIn = new int[TXS + 1];
        final int[] firstOut = new int[TXS + 1];
        /** Of an input: its HASH, its script, and the script's end, where the sequence is. */
        final int[] inAt = new int[INS];
        final int[] inScript = new int[INS];
        final int[] inEnd = new int[INS];
        /** Of an output: its value, its script, and the script's end. */
        final int[] outAt = new int[OUTS];
        final int[] outScript = new int[OUTS];
        final int[] outEnd = new int[OUTS];
        private int end;
        private int at;
        private int ins;
        private int outs;

        /** Whether the bytes are right. */
        boolean read(byte[] bytes, int length) {
            raw = bytes;
            end = length;
            at = HEADER;
            txs = 0;
            ins = 0;
            outs = 0;
            long many = length < HEADER ? -1 : readCount();
            if (many < 0 || many * TX_BYTES > end - at) {
                return false;
            }
            for (int t = 0; t < many; t++) {
                if (!readTx(t)) {
                    return false;
                }
            }
            txs = (int) many;
            return at == end;
        }

        private boolean readTx(int t) {
            txAt[t] = at;
            firstIn[t] = ins;
            firstOut[t] = outs;
            at += 4;
            long many = readCount();
            if (many < 0 || many * IN_BYTES > end - at) {
                return false;
            }
            for (int i = 0; i < many; i++) {
                if (!readIn()) {
                    return false;
                }
            }
            many = readCount();
            if (many < 0 || many * OUT_BYTES > end - at) {
                return false;
            }
            for (int i = 0; i < many; i++) {
                if (!readOut()) {
                    return false;
                }
            }
            at += 4;
            txAt[t + 1] = at;
            firstIn[t + 1] = ins;
            firstOut[t + 1] = outs;
            return at <= end;
        }

        private boolean readIn() {
            inAt[ins] = at;
            at += 36;
            long length = readCount();
            if (length < 0 || length > end - at - 4) {
                return false;
            }
            inScript[ins] = at;
            at += (int) length;
            inEnd[ins] = at;
            at += 4;
            ins++;
            return true;
        }

        private boolean readOut() {
            outAt[outs] = at;
            at += 8;
            long length = readCount();
            if (length < 0 || length > end - at) {
                return false;
            }
            outScript[outs] = at;
            at += (int) length;
            outEnd[outs] = at;
            outs++;
            return true;
        }

        /** A COUNT, or -1 if there is none. */
        private long readCount() {
            if (at >= end) {
                return -1;
            }
            int first = raw[at] & 255;
            at++;
            if (first < 253) {
                return first;
            }
            int size = first == 253 ? 2 : 4;
            if (first == 255 || size > end - at) {
                return -1;
            }
            long many = 0;
            for (int i = size - 1; i >= 0; i--) {
                many = many << 8 | raw[at + i] & 255;
            }
            at += size;
            return many < (size == 2 ? 253 : 65536) ? -1 : many;
        }

        byte[] ids(Sha256 sha) {
            byte[] ids = new byte[32 * txs + 32];
            for (int t = 0; t < txs; t++) {
                sha.twice(raw, txAt[t], txAt[t + 1] - txAt[t], ids, 32 * t);
            }
            return ids;
        }

        boolean rootIsRight(Sha256 sha) {
            byte[] hashes = ids(sha);
            for (int many = txs; many > 1; many = (many + 1) / 2) {
                for (int i = 0; i < many; i += 2) {
                    if (i + 1 == many) {
                        System.arraycopy(hashes, 32 * i, hashes, 32 * i + 32, 32);
                    } else if (same(hashes, 32 * i, hashes, 32 * i + 32, 32)) {
                        return false;
                    }
                    sha.twice(hashes, 32 * i, 64, hashes, 16 * i);
                }
            }
            return same(hashes, 0, raw, 36, 32);
        }

        boolean isSound(int height, long time) {
            for (int t = 0; t < txs; t++) {
                if (!amountsAreSound(t) || !inputsAreSound(t) || !isFinal(t, height, time)) {
                    return false;
                }
            }
            return txs > 0 && beginsWith(height) && scriptsAreSound();
        }

        private boolean amountsAreSound(int t) {
            long sum = 0;
            for (int out = firstOut[t]; out < firstOut[t + 1]; out++) {
                long value = value(out);
                if (value < 0 || value > VALUE_LIMIT || sum + value > VALUE_LIMIT) {
                    return false;
                }
                sum += value;
            }
            return firstOut[t] < firstOut[t + 1];
        }

        private boolean inputsAreSound(int t) {
            for (int in = firstIn[t]; in < firstIn[t + 1]; in++) {
                if (isOfCoinbase(in) != (t == 0)) {
                    return false;
                }
                for (int other = firstIn[t]; other < in; other++) {
                    if (same(raw, inAt[in], raw, inAt[other], 36)) {
                        return false;
                    }
                }
            }
            return firstIn[t] < firstIn[t + 1];
        }

        private boolean isOfCoinbase(int in) {
            for (int i = 0; i < 32; i++) {
                if (raw[inAt[in] + i] != 0) {
                    return false;
                }
            }
            return word(raw, inAt[in] + 32) == -1;
        }

        /** Whether the script of the first input is as long as a coinbase's may be, and pushes the height first. */
        private boolean beginsWith(int height) {
            int script = inScript[0];
            int length = inEnd[0] - script;
            if (length < 2 || length > 100) {
                return false;
            }
            if (height <= 16) {
                return (raw[script] & 255) == 80 + height;
            }
            // A number's highest bit is its sign, so from 128 on it takes a second byte; heights end at 200.
            int size = height < 128 ? 1 : 2;
            return length > size && raw[script] == size && (raw[script + 1] & 255) == (height & 255)
                    && (size == 1 || raw[script + 2] == height >> 8);
        }

        private boolean isFinal(int t, int height, long time) {
            long lock = word(raw, txAt[t + 1] - 4) & 0xFFFFFFFFL;
            if (lock == 0 || lock < height || lock >= TIME_LOCK && lock < time) {
                return true;
            }
            for (int in = firstIn[t]; in < firstIn[t + 1]; in++) {
                if (word(raw, inEnd[in]) != -1) {
                    return false;
                }
            }
            return true;
        }

        private boolean scriptsAreSound() {
            int sigs = 0;
            for (int in = 0; in < ins; in++) {
                if (inEnd[in] - inScript[in] > SCRIPT_LIMIT) {
                    return false;
                }
                sigs += sigsOf(inScript[in], inEnd[in]);
            }
            for (int out = 0; out < outs; out++) {
                if (outEnd[out] - outScript[out] > SCRIPT_LIMIT) {
                    return false;
                }
                sigs += sigsOf(outScript[out], outEnd[out]);
            }
            return sigs <= SIGS_LIMIT;
        }

        private int sigsOf(int from, int to) {
            int sigs = 0;
            int place = from;
            while (place < to) {
                int op = raw[place] & 255;
                place++;
                if (op == Machine.PUSH_MORE) {
                    // One without a length goes beyond the end, too, and so ends the loop.
                    place += place < to ? 1 + (raw[place] & 255) : 1;
                } else if (op < Machine.PUSH_MORE) {
                    place += op;
                } else if (op == Machine.CHECKSIG || op == Machine.CHECKSIG + 1) {
                    sigs++;
                } else if (op == Machine.CHECKMULTISIG || op == Machine.CHECKMULTISIG + 1) {
                    sigs += Machine.KEYS_LIMIT;
                }
            }
            return sigs;
        }

        long value(int out) {
            return word(raw, outAt[out]) & 0xFFFFFFFFL | (long) word(raw, outAt[out] + 4) << 32;
        }

        long valueOut(int t) {
            long sum = 0;
            for (int out = firstOut[t]; out < firstOut[t + 1]; out++) {
                sum += value(out);
            }
            return sum;
        }
    }

    /**
     * Runs scripts; ops have the document's numbers. All bytes are in one row, and a thing on a stack is a handle, a
     * place in that row and a length, so that nothing is copied or made for it.
     */
    private static final class Machine {
        static final int PUSH_MORE = 76;
        static final int CHECKSIG = 172;
        static final int CHECKMULTISIG = 174;
        static final int KEYS_LIMIT = 20;
        private static final int STACK_LIMIT = 200;
        private static final int OPS_LIMIT = 201;
        private static final int NUMBER_LIMIT = 4;
        private static final int LAST_NUMBER_OP = 96;
        /** Places in data: the signed HASH, the bytes of -1 and 1 to 16, both scripts, and what comes out of ops. */
        private static final int MESSAGE = 0;
        private static final int SMALL = 32;
        private static final int SCRIPTS = 64;
        private static final int RESULTS = SCRIPTS + 2 * SCRIPT_LIMIT;
        private static final int FALSE = 0;
        private static final int TRUE = SMALL + 1 << 8 | 1;
        /** The byte of a signature that must be 1, as four; its second byte serves as an empty script's COUNT. */
        private static final byte[] ALL = {1, 0, 0, 0};

        private final Sha256 sha;
        private final Signatures signatures;
        private final Ripemd160 ripemd = new Ripemd160();
        private final byte[] data = new byte[RESULTS + 2 * OPS_LIMIT * 32];
        private final int[] scriptEnd = new int[2];
        private final int[] main = new int[STACK_LIMIT + 4];
        private final int[] other = new int[STACK_LIMIT + 4];
        private final boolean[] taken = new boolean[OPS_LIMIT + 1];
        private int height;
        private int otherHeight;
        private int ops;
        private int ifs;
        private int ifsNotTaken;
        private int free;
        private Layout layout;
        private int tx;
        private int in;
        private Coin coin;
        private boolean messageIsThere;

        Machine(Sha256 sha, Signatures signatures) {
            this.sha = sha;
            this.signatures = signatures;
            data[SMALL] = (byte) 0x81;
            for (int i = 1; i <= 16; i++) {
                data[SMALL + i] = (byte) i;
            }
        }

        void load(int which, byte[] from, int at, int end) {
            int begin = SCRIPTS + which * SCRIPT_LIMIT;
            System.arraycopy(from, at, data, begin, end - at);
            scriptEnd[which] = begin + end - at;
        }

        void spendNothing() {
            spend(null, 0, 0, null);
        }

        /** Empties the stack, for scripts of this input of this TX, which spends coin. */
        void spend(Layout layout, int tx, int in, Coin coin) {
            this.layout = layout;
            this.tx = tx;
            this.in = in;
            this.coin = coin;
            messageIsThere = false;
            height = 0;
            free = RESULTS;
        }

        boolean endsTrue() {
            return height > 0 && isTrue(main[height - 1]);
        }

        /** Runs a script to its end: whether it does not fail. */
        boolean run(int which) {
            otherHeight = 0;
            ops = 0;
            ifs = 0;
            ifsNotTaken = 0;
            int at = SCRIPTS + which * SCRIPT_LIMIT;
            int end = scriptEnd[which];
            while (at < end) {
                int op = data[at] & 255;
                at++;
                boolean fine = true;
                if (op <= PUSH_MORE) {
                    int length = op;
                    if (op == PUSH_MORE) {
                        length = at < end ? data[at] & 255 : end;
                        at++;
                    }
                    fine = length <= end - at;
                    if (fine && ifsNotTaken == 0) {
                        push(at << 8 | length);
                    }
                    at += length;
                } else if (op > LAST_NUMBER_OP && ++ops > OPS_LIMIT) {
                    fine = false;
                } else if (op >= 99 && op <= 104 && op != 101 && op != 102) {
                    fine = branch(op);
                } else if (ifsNotTaken == 0) {
                    // Signatures are not left to perform, which keeps the calls flat.
                    fine = op == CHECKMULTISIG || op == CHECKMULTISIG + 1 ? checkMany(op)
                            : op == CHECKSIG || op == CHECKSIG + 1 ? checkOne(op) : perform(op);
                }
                if (!fine || height + otherHeight > STACK_LIMIT) {
                    return false;
                }
            }
            return ifs == 0;
        }

        private void push(int handle) {
            main[height] = handle;
            height++;
        }

        private void pushNumber(long number) {
            long rest = Math.abs(number);
            int length = 0;
            while (rest != 0) {
                data[free + length] = (byte) rest;
                length++;
                rest >>>= 8;
            }
            if (length > 0 && data[free + length - 1] < 0) {
                data[free + length] = 0;
                length++;
            }
            if (number < 0) {
                data[free + length - 1] |= (byte) 0x80;
            }
            push(free << 8 | length);
            free += length;
        }

        private static int lengthOf(int handle) {
            return handle & 255;
        }

        private static int placeOf(int handle) {
            return handle >>> 8;
        }

        private boolean isTrue(int handle) {
            int last = placeOf(handle) + lengthOf(handle) - 1;
            for (int i = placeOf(handle); i <= last; i++) {
                if (data[i] != 0) {
                    return i < last || (data[i] & 255) != 0x80;
                }
            }
            return false;
        }

        private boolean isNumber(int handle) {
            return lengthOf(handle) <= NUMBER_LIMIT;
        }

        private long numberOf(int handle) {
            int length = lengthOf(handle);
            long number = 0;
            for (int i = length - 1; i >= 0; i--) {
                number = number << 8 | data[placeOf(handle) + i] & 255;
            }
            long sign = length == 0 ? 0 : 128L << 8 * (length - 1);
            return (number & sign) == 0 ? number : -(number - sign);
        }

        private boolean branch(int op) {
            if (op <= 100) {
                boolean take = false;
                if (ifsNotTaken == 0) {
                    if (height < 1) {
                        return false;
                    }
                    height--;
                    take = isTrue(main[height]) == (op == 99);
                }
                taken[ifs] = take;
                ifs++;
                ifsNotTaken += take ? 0 : 1;
                return true;
            }
            if (ifs < 1) {
                return false;
            }
            if (op == 103) {
                taken[ifs - 1] = !taken[ifs - 1];
                ifsNotTaken += taken[ifs - 1] ? -1 : 1;
                return true;
            }
            ifs--;
            ifsNotTaken -= taken[ifs] ? 0 : 1;
            return true;
        }

        private boolean perform(int op) {
            if (op <= LAST_NUMBER_OP) {
                return pushSmall(op);
            }
            if (op == 97) {
                return true;
            }
            if (op == 105) {
                return verifyTop();
            }
            if (op == 107 || op == 108) {
                return op == 107 ? toOther() : fromOther();
            }
            if (op <= 130) {
                return arrange(op);
            }
            if (op == 135 || op == 136) {
                return compareTop(op);
            }
            if (op <= 146) {
                return changeNumber(op);
            }
            if (op <= 164) {
                return joinNumbers(op);
            }
            return op == 165 ? within() : digestTop(op);
        }

        private boolean pushSmall(int op) {
            if (op != 79 && op < 81) {
                return false;
            }
            push(SMALL + (op == 79 ? 0 : op - 80) << 8 | 1);
            return true;
        }

        private boolean verifyTop() {
            if (height < 1 || !isTrue(main[height - 1])) {
                return false;
            }
            height--;
            return true;
        }

        /** How many things an op that only moves things must find. */
        private static int neededBy(int op) {
            if (op == 123) {
                return 3;
            }
            if (op == 109 || op == 110 || op >= 119 && op <= 125) {
                return 2;
            }
            return op == 116 ? 0 : 1;
        }

        private boolean arrange(int op) {
            if (height < neededBy(op)) {
                return false;
            }
            int top = height > 0 ? main[height - 1] : FALSE;
            int second = height > 1 ? main[height - 2] : FALSE;
            switch (op) {
                case 109:
                    height -= 2;
                    return true;
                case 110:
                    push(second);
                    push(top);
                    return true;
                case 115:
                    if (isTrue(top)) {
                        push(top);
                    }
                    return true;
                case 116:
                    pushNumber(height);
                    return true;
                case 117:
                    height--;
                    return true;
                case 118:
                    push(top);
                    return true;
                case 119:
                    height--;
                    main[height - 1] = top;
                    return true;
                case 120:
                    push(second);
                    return true;
                case 121:
                case 122:
                    return fetch(op);
                case 123:
                    main[height - 1] = main[height - 3];
                    main[height - 3] = second;
                    main[height - 2] = top;
                    return true;
                case 124:
                case 125:
                    main[height - 1] = second;
                    main[height - 2] = top;
                    if (op == 125) {
                        push(top);
                    }
                    return true;
                case 130:
                    pushNumber(lengthOf(top));
                    return true;
                default:
                    return false;
            }
        }

        private boolean toOther() {
            if (height < 1) {
                return false;
            }
            height--;
            other[otherHeight] = main[height];
            otherHeight++;
            return true;
        }

        private boolean fromOther() {
            if (otherHeight < 1) {
                return false;
            }
            otherHeight--;
            push(other[otherHeight]);
            return true;
        }

        /** PICK and ROLL. */
        private boolean fetch(int op) {
            height--;
            int top = main[height];
            if (!isNumber(top) || numberOf(top) < 0 || numberOf(top) >= height) {
                return false;
            }
            int place = height - 1 - (int) numberOf(top);
            int handle = main[place];
            if (op == 122) {
                height--;
                System.arraycopy(main, place + 1, main, place, height - place);
            }
            push(handle);
            return true;
        }

        private boolean compareTop(int op) {
            if (height < 2) {
                return false;
            }
            int a = main[height - 2];
            int b = main[height - 1];
            height -= 2;
            push(lengthOf(a) == lengthOf(b) && same(data, placeOf(a), data, placeOf(b), lengthOf(a)) ? TRUE : FALSE);
            return op == 135 || verifyTop();
        }

        private boolean changeNumber(int op) {
            if (height < 1 || !isNumber(main[height - 1])) {
                return false;
            }
            height--;
            long n = numberOf(main[height]);
            switch (op) {
                case 139:
                    pushNumber(n + 1);
                    return true;
                case 140:
                    pushNumber(n - 1);
                    return true;
                case 143:
                    pushNumber(-n);
                    return true;
                case 144:
                    pushNumber(Math.abs(n));
                    return true;
                case 145:
                    push(n == 0 ? TRUE : FALSE);
                    return true;
                case 146:
                    push(n != 0 ? TRUE : FALSE);
                    return true;
                default:
                    return false;
            }
        }

        private boolean joinNumbers(int op) {
            if (height < 2 || !isNumber(main[height - 2]) || !isNumber(main[height - 1])) {
                return false;
            }
            long a = numberOf(main[height - 2]);
            long b = numberOf(main[height - 1]);
            height -= 2;
            switch (op) {
                case 147:
                    pushNumber(a + b);
                    return true;
                case 148:
                    pushNumber(a - b);
                    return true;
                case 163:
                    pushNumber(Math.min(a, b));
                    return true;
                case 164:
                    pushNumber(Math.max(a, b));
                    return true;
                default:
                    if (op < 154) {
                        return false;
                    }
                    push(holds(op, a, b) ? TRUE : FALSE);
                    return op != 157 || verifyTop();
            }
        }

        private static boolean holds(int op, long a, long b) {
            switch (op) {
                case 154:
                    return a != 0 && b != 0;
                case 155:
                    return a != 0 || b != 0;
                case 158:
                    return a != b;
                case 159:
                    return a < b;
                case 160:
                    return a > b;
                case 161:
                    return a <= b;
                case 162:
                    return a >= b;
                default:
                    return a == b;
            }
        }

        private boolean within() {
            if (height < 3 || !isNumber(main[height - 3]) || !isNumber(main[height - 2])
                    || !isNumber(main[height - 1])) {
                return false;
            }
            height -= 3;
            long number = numberOf(main[height]);
            push(number >= numberOf(main[height + 1]) && number < numberOf(main[height + 2]) ? TRUE : FALSE);
            return true;
        }

        private boolean digestTop(int op) {
            if (height < 1 || op != 166 && (op < 168 || op > 170)) {
                return false;
            }
            height--;
            int place = placeOf(main[height]);
            int length = lengthOf(main[height]);
            if (op == 166) {
                ripemd.once(data, place, length, data, free);
            } else {
                sha.once(data, place, length, data, free);
            }
            if (op == 169) {
                ripemd.once(data, free, 32, data, free);
            } else if (op == 170) {
                sha.once(data, free, 32, data, free);
            }
            int made = op == 166 || op == 169 ? 20 : 32;
            push(free << 8 | made);
            free += made;
            return true;
        }

        private boolean checkOne(int op) {
            if (height < 2) {
                return false;
            }
            int sig = main[height - 2];
            int key = main[height - 1];
            height -= 2;
            boolean good = hasMessage() && signatures.verify(data, MESSAGE, placeOf(key), lengthOf(key),
                    placeOf(sig), lengthOf(sig));
            push(good ? TRUE : FALSE);
            return op == CHECKSIG || verifyTop();
        }

        /** A thing too few, the one that is of no use with them, fails as all the others do. */
        private boolean checkMany(int op) {
            int keys = popLimited(KEYS_LIMIT);
            ops += Math.max(keys, 0);
            if (keys < 0 || ops > OPS_LIMIT || height < keys) {
                return false;
            }
            height -= keys;
            int key = height + keys - 1;
            int sigs = popLimited(keys);
            if (sigs < 0 || height < sigs + 1) {
                return false;
            }
            int sig = height - 1;
            height -= sigs + 1;
            while (sigs > 0 && sigs <= keys) {
                if (hasMessage() && signatures.verify(data, MESSAGE, placeOf(main[key]), lengthOf(main[key]),
                        placeOf(main[sig]), lengthOf(main[sig]))) {
                    sig--;
                    sigs--;
                }
                key--;
                keys--;
            }
            push(sigs == 0 ? TRUE : FALSE);
            return op == CHECKMULTISIG || verifyTop();
        }

        /** Takes a number of 0 to most from the stack, or answers -1 if there is none. */
        private int popLimited(int most) {
            if (height < 1 || !isNumber(main[height - 1])) {
                return -1;
            }
            height--;
            long number = numberOf(main[height]);
            return number < 0 || number > most ? -1 : (int) number;
        }

        /** Whether there is a TX; the HASH that its signatures sign is in data then. */
        private boolean hasMessage() {
            if (layout == null || coin == null) {
                return false;
            }
            if (!messageIsThere) {
                writeMessage();
                messageIsThere = true;
            }
            return true;
        }

        private void writeMessage() {
            byte[] raw = layout.raw;
            int at = layout.txAt[tx];
            sha.begin();
            for (int i = layout.firstIn[tx]; i < layout.firstIn[tx + 1]; i++) {
                sha.add(raw, at, layout.inAt[i] + 36);
                if (i == in) {
                    sha.add(coin.block.raw, coin.countAt, coin.scriptEnd);
                } else {
                    sha.add(ALL, 1, 2);
                }
                at = layout.inEnd[i];
            }
            sha.add(raw, at, layout.txAt[tx + 1]);
            sha.add(ALL, 0, 4);
            sha.finish(data, MESSAGE);
            sha.begin();
            sha.add(data, MESSAGE, MESSAGE + 32);
            sha.finish(data, MESSAGE);
        }
    }

    /** SHA-256. */
    private static final class Sha256 {
        private static final int[] K = {
            0x428a2f98, 0x71374491, 0xb5c0fbcf, 0xe9b5dba5, 0x3956c25b, 0x59f111f1, 0x923f82a4, 0xab1c5ed5,
            0xd807aa98, 0x12835b01, 0x243185be, 0x550c7dc3, 0x72be5d74, 0x80deb1fe, 0x9bdc06a7, 0xc19bf174,
            0xe49b69c1, 0xefbe4786, 0x0fc19dc6, 0x240ca1cc, 0x2de92c6f, 0x4a7484aa, 0x5cb0a9dc, 0x76f988da,
            0x983e5152, 0xa831c66d, 0xb00327c8, 0xbf597fc7, 0xc6e00bf3, 0xd5a79147, 0x06ca6351, 0x14292967,
            0x27b70a85, 0x2e1b2138, 0x4d2c6dfc, 0x53380d13, 0x650a7354, 0x766a0abb, 0x81c2c92e, 0x92722c85,
            0xa2bfe8a1, 0xa81a664b, 0xc24b8b70, 0xc76c51a3, 0xd192e819, 0xd6990624, 0xf40e3585, 0x106aa070,
            0x19a4c116, 0x1e376c08, 0x2748774c, 0x34b0bcb5, 0x391c0cb3, 0x4ed8aa4a, 0x5b9cca4f, 0x682e6ff3,
            0x748f82ee, 0x78a5636f, 0x84c87814, 0x8cc70208, 0x90befffa, 0xa4506ceb, 0xbef9a3f7, 0xc67178f2};
        private static final int[] START = {
            0x6a09e667, 0xbb67ae85, 0x3c6ef372, 0xa54ff53a, 0x510e527f, 0x9b05688c, 0x1f83d9ab, 0x5be0cd19};
        private static final int CHUNK = 64;

        private final int[] state = new int[8];
        private final int[] w = new int[64];
        private final byte[] chunk = new byte[CHUNK];
        private int filled;
        private long length;

        void twice(byte[] from, int at, int length, byte[] to, int toAt) {
            once(from, at, length, to, toAt);
            once(to, toAt, 32, to, toAt);
        }

        void once(byte[] from, int at, int length, byte[] to, int toAt) {
            begin();
            add(from, at, at + length);
            finish(to, toAt);
        }

        void begin() {
            System.arraycopy(START, 0, state, 0, 8);
            filled = 0;
            length = 0;
        }

        void add(byte[] from, int at, int end) {
            int place = at;
            while (place < end) {
                int part = Math.min(CHUNK - filled, end - place);
                System.arraycopy(from, place, chunk, filled, part);
                place += part;
                filled += part;
                length += part;
                if (filled == CHUNK) {
                    mix();
                }
            }
        }

        void finish(byte[] to, int at) {
            chunk[filled] = (byte) 0x80;
            filled++;
            if (filled > CHUNK - 8) {
                fillWithZeros(CHUNK);
                mix();
            }
            fillWithZeros(CHUNK - 8);
            for (int i = 0; i < 8; i++) {
                chunk[CHUNK - 1 - i] = (byte) (length * 8 >>> 8 * i);
            }
            mix();
            for (int i = 0; i < 32; i++) {
                to[at + i] = (byte) (state[i >> 2] >>> 24 - 8 * (i & 3));
            }
        }

        private void fillWithZeros(int end) {
            for (int i = filled; i < end; i++) {
                chunk[i] = 0;
            }
        }

        private void mix() {
            for (int i = 0; i < 16; i++) {
                int at = 4 * i;
                w[i] = chunk[at] << 24 | (chunk[at + 1] & 255) << 16 | (chunk[at + 2] & 255) << 8 | chunk[at + 3] & 255;
            }
            for (int i = 16; i < 64; i++) {
                int x = w[i - 15];
                int y = w[i - 2];
                w[i] = w[i - 16] + ((x >>> 7 | x << 25) ^ (x >>> 18 | x << 14) ^ x >>> 3)
                        + w[i - 7] + ((y >>> 17 | y << 15) ^ (y >>> 19 | y << 13) ^ y >>> 10);
            }
            int a = state[0];
            int b = state[1];
            int c = state[2];
            int d = state[3];
            int e = state[4];
            int f = state[5];
            int g = state[6];
            int h = state[7];
            for (int i = 0; i < 64; i++) {
                int turned = (e >>> 6 | e << 26) ^ (e >>> 11 | e << 21) ^ (e >>> 25 | e << 7);
                int first = h + turned + (e & f ^ ~e & g) + K[i] + w[i];
                turned = (a >>> 2 | a << 30) ^ (a >>> 13 | a << 19) ^ (a >>> 22 | a << 10);
                int second = turned + (a & b ^ a & c ^ b & c);
                h = g;
                g = f;
                f = e;
                e = d + first;
                d = c;
                c = b;
                b = a;
                a = first + second;
            }
            state[0] += a;
            state[1] += b;
            state[2] += c;
            state[3] += d;
            state[4] += e;
            state[5] += f;
            state[6] += g;
            state[7] += h;
            filled = 0;
        }
    }

    /** RIPEMD-160. */
    private static final class Ripemd160 {
        private static final byte[] LEFT_WORD = {
            0, 1, 2, 3, 4, 5, 6, 7, 8, 9, 10, 11, 12, 13, 14, 15,
            7, 4, 13, 1, 10, 6, 15, 3, 12, 0, 9, 5, 2, 14, 11, 8,
            3, 10, 14, 4, 9, 15, 8, 1, 2, 7, 0, 6, 13, 11, 5, 12,
            1, 9, 11, 10, 0, 8, 12, 4, 13, 3, 7, 15, 14, 5, 6, 2,
            4, 0, 5, 9, 7, 12, 2, 10, 14, 1, 3, 8, 11, 6, 15, 13};
        private static final byte[] RIGHT_WORD = {
            5, 14, 7, 0, 9, 2, 11, 4, 13, 6, 15, 8, 1, 10, 3, 12,
            6, 11, 3, 7, 0, 13, 5, 10, 14, 15, 8, 12, 4, 9, 1, 2,
            15, 5, 1, 3, 7, 14, 6, 9, 11, 8, 12, 2, 10, 0, 4, 13,
            8, 6, 4, 1, 3, 11, 15, 0, 5, 12, 2, 13, 9, 7, 10, 14,
            12, 15, 10, 4, 1, 5, 8, 7, 6, 2, 13, 14, 0, 3, 9, 11};
        private static final byte[] LEFT_TURN = {
            11, 14, 15, 12, 5, 8, 7, 9, 11, 13, 14, 15, 6, 7, 9, 8,
            7, 6, 8, 13, 11, 9, 7, 15, 7, 12, 15, 9, 11, 7, 13, 12,
            11, 13, 6, 7, 14, 9, 13, 15, 14, 8, 13, 6, 5, 12, 7, 5,
            11, 12, 14, 15, 14, 15, 9, 8, 9, 14, 5, 6, 8, 6, 5, 12,
            9, 15, 5, 11, 6, 8, 13, 12, 5, 12, 13, 14, 11, 8, 5, 6};
        private static final byte[] RIGHT_TURN = {
            8, 9, 9, 11, 13, 15, 15, 5, 7, 7, 8, 11, 14, 14, 12, 6,
            9, 13, 15, 7, 12, 8, 9, 11, 7, 7, 12, 7, 6, 15, 13, 11,
            9, 7, 15, 11, 8, 6, 6, 14, 12, 13, 5, 14, 13, 13, 7, 5,
            15, 5, 8, 11, 14, 14, 6, 14, 6, 9, 12, 9, 12, 5, 15, 8,
            8, 5, 12, 9, 12, 5, 14, 6, 8, 13, 6, 5, 15, 13, 11, 11};
        private static final int[] LEFT_K = {0, 0x5a827999, 0x6ed9eba1, 0x8f1bbcdc, 0xa953fd4e};
        private static final int[] RIGHT_K = {0x50a28be6, 0x5c4dd124, 0x6d703ef3, 0x7a6d76e9, 0};
        private static final int[] START = {0x67452301, 0xefcdab89, 0x98badcfe, 0x10325476, 0xc3d2e1f0};

        private final int[] state = new int[5];
        private final int[] left = new int[5];
        private final int[] right = new int[5];
        private final int[] x = new int[16];

        void once(byte[] from, int at, int length, byte[] to, int toAt) {
            System.arraycopy(START, 0, state, 0, 5);
            int chunks = (length + 8) / 64 + 1;
            for (int chunk = 0; chunk < chunks; chunk++) {
                spread(from, at, length, 64 * chunk);
                if (chunk == chunks - 1) {
                    x[14] = 8 * length;
                }
                turn(left, LEFT_WORD, LEFT_TURN, LEFT_K, 0);
                turn(right, RIGHT_WORD, RIGHT_TURN, RIGHT_K, 4);
                int kept = state[1] + left[2] + right[3];
                state[1] = state[2] + left[3] + right[4];
                state[2] = state[3] + left[4] + right[0];
                state[3] = state[4] + left[0] + right[1];
                state[4] = state[0] + left[1] + right[2];
                state[0] = kept;
            }
            for (int i = 0; i < 20; i++) {
                to[toAt + i] = (byte) (state[i >> 2] >>> 8 * (i & 3));
            }
        }

        /** The words from begin on of the bytes, behind which 128 and zeros follow. */
        private void spread(byte[] from, int at, int length, int begin) {
            for (int i = 0; i < 16; i++) {
                x[i] = 0;
            }
            for (int i = 0; i < 64; i++) {
                int place = begin + i;
                int value = place < length ? from[at + place] & 255 : place == length ? 128 : 0;
                x[i >> 2] |= value << 8 * (i & 3);
            }
        }

        /** One of the two lines; mirror is 4 for the one that has its functions in the reverse order. */
        private void turn(int[] line, byte[] words, byte[] turns, int[] k, int mirror) {
            int a = state[0];
            int b = state[1];
            int c = state[2];
            int d = state[3];
            int e = state[4];
            for (int i = 0; i < 80; i++) {
                int round = i >> 4;
                int sum = a + mixed(Math.abs(mirror - round), b, c, d) + x[words[i]] + k[round];
                int turned = (sum << turns[i] | sum >>> 32 - turns[i]) + e;
                a = e;
                e = d;
                d = c << 10 | c >>> 22;
                c = b;
                b = turned;
            }
            line[0] = a;
            line[1] = b;
            line[2] = c;
            line[3] = d;
            line[4] = e;
        }

        private static int mixed(int which, int b, int c, int d) {
            switch (which) {
                case 0:
                    return b ^ c ^ d;
                case 1:
                    return b & c | ~b & d;
                case 2:
                    return (b | ~c) ^ d;
                case 3:
                    return b & d | c & ~d;
                default:
                    return b ^ (c | ~d);
            }
        }
    }

    /** Whether SIGS are ones of a HASH by a public key: ECDSA on secp256k1. */
    private static final class Signatures {
        private static final int DIGITS = 257;
        private static final int WINDOW = 5;
        private static final int ODDS = 8;

        private final Curve curve = new Curve();
        private final long[] r = new long[Scalar.LIMBS];
        private final long[] s = new long[Scalar.LIMBS];
        private final long[] message = new long[Scalar.LIMBS];
        private final long[] ofBase = new long[Scalar.LIMBS];
        private final long[] ofKey = new long[Scalar.LIMBS];
        private final long[][] spare = new long[4][Scalar.LIMBS];
        private final byte[] baseDigits = new byte[DIGITS + WINDOW];
        private final byte[] keyDigits = new byte[DIGITS + WINDOW];
        private final Point[] base = new Point[ODDS];
        private final Point[] key = new Point[ODDS];
        private final Point twiceKey = new Point();
        private final Point sum = new Point();

        Signatures() {
            for (int i = 0; i < ODDS; i++) {
                base[i] = new Point();
                base[i].becomeBase(i);
                key[i] = new Point();
            }
        }

        /** All in data: a HASH of 32 bytes, the key, and the SIG with its last byte. */
        boolean verify(byte[] data, int hashAt, int keyAt, int keyLength, int sigAt, int sigLength) {
            if (!isStrict(data, sigAt, sigLength) || data[sigAt + sigLength - 1] != 1) {
                return false;
            }
            int rLength = data[sigAt + 3];
            int sLength = data[sigAt + 5 + rLength];
            if (!readNumber(data, sigAt + 4, rLength, r) || !readNumber(data, sigAt + 6 + rLength, sLength, s)
                    || !curve.readKey(data, keyAt, keyLength, key[0])) {
                return false;
            }
            Scalar.load(data, hashAt, 32, message);
            if (Scalar.compare(message, Scalar.ORDER) >= 0) {
                Scalar.subtract(message, Scalar.ORDER);
            }
            divide(message, ofBase);
            divide(r, ofKey);
            writeDigits(ofBase, baseDigits);
            writeDigits(ofKey, keyDigits);
            addUp();
            return sumIsRight();
        }

        /** BIP 66's rules, in its order. */
        private static boolean isStrict(byte[] sig, int at, int length) {
            if (length < 9 || length > 73 || sig[at] != 0x30 || sig[at + 1] != length - 3) {
                return false;
            }
            int rLength = sig[at + 3] & 255;
            if (5 + rLength >= length) {
                return false;
            }
            int sLength = sig[at + 5 + rLength] & 255;
            return rLength + sLength + 7 == length && isStrictNumber(sig, at + 2, rLength)
                    && isStrictNumber(sig, at + 4 + rLength, sLength);
        }

        private static boolean isStrictNumber(byte[] sig, int at, int length) {
            if (sig[at] != 2 || length == 0 || sig[at + 2] < 0) {
                return false;
            }
            return length == 1 || sig[at + 2] != 0 || sig[at + 3] < 0;
        }

        /** Whether the bytes are a number of 1 to the order less 1. */
        private static boolean readNumber(byte[] from, int at, int length, long[] to) {
            int zeros = length > 0 && from[at] == 0 ? 1 : 0;
            if (length - zeros > 32) {
                return false;
            }
            Scalar.load(from, at + zeros, length - zeros, to);
            return !Scalar.isZero(to) && Scalar.compare(to, Scalar.ORDER) < 0;
        }

        /**
         * to = top / s modulo the order. Always u = x (s / top) and v = y (s / top) there; u and v get smaller until
         * u is 0 and v, their greatest common divisor, is 1.
         */
        private void divide(long[] top, long[] to) {
            long[] u = spare[0];
            long[] v = spare[1];
            long[] x = spare[2];
            long[] y = spare[3];
            for (int i = 0; i < Scalar.LIMBS; i++) {
                u[i] = s[i];
                v[i] = Scalar.ORDER[i];
                x[i] = top[i];
                y[i] = 0;
            }
            // Of each two rounds one halves u at least, and both have 256 bits.
            for (int round = 0; round < 1100 && !Scalar.isZero(u); round++) {
                if ((u[0] & 1) == 0) {
                    Scalar.halve(u);
                    Scalar.halveModulo(x);
                    continue;
                }
                if (Scalar.compare(u, v) < 0) {
                    long[] kept = u;
                    u = v;
                    v = kept;
                    kept = x;
                    x = y;
                    y = kept;
                }
                Scalar.subtract(u, v);
                Scalar.subtractModulo(x, y);
            }
            System.arraycopy(y, 0, to, 0, Scalar.LIMBS);
        }

        /** The number as a sum of 2^i digits[i], each 0 or odd and within -15 to 15, with zeros behind each odd one. */
        private static void writeDigits(long[] number, byte[] digits) {
            for (int i = 0; i < digits.length; i++) {
                digits[i] = 0;
            }
            int carry = 0;
            int bit = 0;
            while (bit < DIGITS) {
                if (Scalar.bits(number, bit, 1) == carry) {
                    bit++;
                    continue;
                }
                int digit = Scalar.bits(number, bit, WINDOW) + carry;
                carry = digit >> WINDOW - 1;
                digits[bit] = (byte) (digit - (carry << WINDOW));
                bit += WINDOW;
            }
        }

        /** sum = ofBase times the curve's base + ofKey times the key. */
        private void addUp() {
            twiceKey.become(key[0]);
            curve.makeTwice(twiceKey);
            for (int i = 1; i < ODDS; i++) {
                key[i].become(key[i - 1]);
                curve.add(key[i], twiceKey, false);
            }
            sum.isNone = true;
            for (int bit = DIGITS - 1; bit >= 0; bit--) {
                curve.makeTwice(sum);
                for (int side = 0; side < 2; side++) {
                    int digit = side == 0 ? baseDigits[bit] : keyDigits[bit];
                    Point[] odds = side == 0 ? base : key;
                    if (digit != 0 && !curve.add(sum, odds[Math.abs(digit) >> 1], digit < 0)) {
                        curve.makeTwice(sum);
                    }
                }
            }
        }

        /** Whether the sum's x is r modulo the order: it may be r, or r and the order. */
        private boolean sumIsRight() {
            if (sum.isNone) {
                return false;
            }
            if (curve.hasX(sum, r)) {
                return true;
            }
            Scalar.add(r, Scalar.ORDER);
            return Scalar.compare(r, Scalar.PRIME) < 0 && curve.hasX(sum, r);
        }
    }

    /** Numbers below 2^256 in limbs of 52 bits, the lowest first; those modulo the curve's order, too. */
    private static final class Scalar {
        static final int LIMBS = 5;
        private static final int BITS = 52;
        private static final long MASK = 0xFFFFFFFFFFFFFL;
        /** The order of the curve's base, and p, modulo which the curve's points are. */
        static final long[] ORDER = {
            0x25E8CD0364141L, 0xE6AF48A03BBFDL, 0xFFFFFFEBAAEDCL, 0xFFFFFFFFFFFFFL, 0xFFFFFFFFFFFFL};
        static final long[] PRIME = {
            0xFFFFEFFFFFC2FL, 0xFFFFFFFFFFFFFL, 0xFFFFFFFFFFFFFL, 0xFFFFFFFFFFFFFL, 0xFFFFFFFFFFFFL};

        /** From at most 32 bytes, the highest first. */
        static void load(byte[] from, int at, int length, long[] to) {
            long kept = 0;
            int bits = 0;
            int limb = 0;
            for (int i = length - 1; i >= 0; i--) {
                kept |= (from[at + i] & 255L) << bits;
                bits += 8;
                if (bits >= BITS) {
                    to[limb] = kept & MASK;
                    limb++;
                    kept >>= BITS;
                    bits -= BITS;
                }
            }
            while (limb < LIMBS) {
                to[limb] = kept;
                kept = 0;
                limb++;
            }
        }

        static int compare(long[] a, long[] b) {
            for (int i = LIMBS - 1; i >= 0; i--) {
                if (a[i] != b[i]) {
                    return a[i] < b[i] ? -1 : 1;
                }
            }
            return 0;
        }

        static boolean isZero(long[] a) {
            return (a[0] | a[1] | a[2] | a[3] | a[4]) == 0;
        }

        /** Bits at and above a place, as a number; those above the highest limb are 0. */
        static int bits(long[] a, int at, int many) {
            int limb = at / BITS;
            int shift = at % BITS;
            long found = limb < LIMBS ? a[limb] >> shift : 0;
            if (shift + many > BITS && limb + 1 < LIMBS) {
                found |= a[limb + 1] << BITS - shift;
            }
            return (int) found & (1 << many) - 1;
        }

        static void add(long[] a, long[] b) {
            long carry = 0;
            for (int i = 0; i < LIMBS; i++) {
                carry += a[i] + b[i];
                a[i] = i < LIMBS - 1 ? carry & MASK : carry;
                carry >>= BITS;
            }
        }

        /** The highest limb is below 0 if the difference is. */
        static void subtract(long[] a, long[] b) {
            long carry = 0;
            for (int i = 0; i < LIMBS; i++) {
                carry += a[i] - b[i];
                a[i] = i < LIMBS - 1 ? carry & MASK : carry;
                carry >>= BITS;
            }
        }

        static void subtractModulo(long[] a, long[] b) {
            subtract(a, b);
            if (a[LIMBS - 1] < 0) {
                add(a, ORDER);
            }
        }

        static void halve(long[] a) {
            for (int i = 0; i < LIMBS - 1; i++) {
                a[i] = a[i] >> 1 | (a[i + 1] & 1) << BITS - 1;
            }
            a[LIMBS - 1] >>= 1;
        }

        static void halveModulo(long[] a) {
            if ((a[0] & 1) != 0) {
                add(a, ORDER);
            }
            halve(a);
        }
    }

    /** A point of the curve, x / z^2 and y / z^3, in the limbs of Curve; isNone is the one at infinity. */
    private static final class Point {
        /** x and y of 1, 3, 5 .. 15 times the curve's base. */
        private static final int[] ODDS_OF_BASE = {
            0x2F81798, 0xA056C5, 0x28D959F, 0x36CB738, 0x3029BFC, 0x3A1C2C1, 0x206295C, 0x2EEB156, 0x27EF9DC, 0x1E6F99,
            0x310D4B8, 0x1F423FE, 0x14199C4, 0x1229A15, 0xFD17B4, 0x384422A, 0x24FBFC0, 0x3119576, 0x27726A3, 0x120EB6,
            0xE036F9, 0x7C44EF, 0x19B0860, 0x1160DBE, 0x1B531C8, 0x227548A, 0x344F85F, 0x30C4124, 0x2019258, 0x3E4C22,
            0xB8E672, 0x27F5D61, 0x231B6CB, 0x264D308, 0x26500A9, 0x28DFCD5, 0x2337E62, 0x3A0503F, 0x30F632D, 0xE23DE,
            0x240EFE4, 0x2355A6C, 0x1AB7CBA, 0x2F77186, 0xE88B84, 0x297144A, 0x34A7250, 0x824D56, 0x24D1A07, 0xBE2F7,
            0x2AC62D6, 0x21F4EA9, 0x2840DCA, 0x6EAC35, 0x2F78827, 0x1B27109, 0x1BA9DDA, 0x38F5B53, 0x22636E5, 0x362B08,
            0x2C4F9BC, 0x2F77B72, 0x239CE92, 0x1F80CC3, 0x23D419B, 0xBA9E83, 0x18F365F, 0x2D3AA8E, 0x646E5D, 0x172F7C,
            0x7264DA, 0x2098A02, 0x27B5A50, 0x2E04FF7, 0x3A813D0, 0x1869536, 0x178D6D8, 0x165828C, 0x240BA25, 0x1ABAF2,
            0x27CCBE, 0x3C4437F, 0x2714C35, 0x25D315F, 0x1E09796, 0x3D566AF, 0x2D178A9, 0x3D94C26, 0xE2F0C7, 0x2B3521,
            0x24F9C37, 0x3098AB1, 0xE0F05C, 0x290DD7E, 0x1ADD888, 0x18ED87A, 0x3809717, 0x367F590, 0x121B0A7, 0x330CE2,
            0x1A008CB, 0x305E257, 0x3891BBE, 0x2F9705, 0x564998, 0x3196AB, 0x34246B7, 0x104797B, 0x3F858A9, 0x1DD2B9,
            0x153C61B, 0x35D3272, 0x16A8301, 0x38B7FE7, 0x1372DB1, 0x1EDECD9, 0x3DD56D, 0x1786409, 0x32EB6B, 0x366128,
            0x1405AA8, 0x377E3C6, 0x18CDDEE, 0x3198439, 0x1B075FB, 0xDD2194, 0x11D205C, 0xA22F1F, 0x3C2D975, 0x3CA1DC,
            0x303ED81, 0x172D4B6, 0x291F29B, 0x369487E, 0x33A1A06, 0x1736BD1, 0x212EB6, 0x2A25D6, 0x2E8D88, 0x2AC24,
            0x27E080E, 0x36F3E38, 0x379E44A, 0x1BCF217, 0x131E594, 0x257FD04, 0x65AE30, 0x3AA5969, 0x14F7D43, 0x35E493,
            0x2A26B58, 0x13727FD, 0x13A5C50, 0xAF625B, 0x3EA40AF, 0x2331B7B, 0x42EC22, 0x1CA9A0E, 0x72A86C, 0x16078A};

        final long[] x = new long[Curve.LIMBS];
        final long[] y = new long[Curve.LIMBS];
        final long[] z = new long[Curve.LIMBS];
        boolean isNone;
        /** Whether z is known to be 1, which spares work. */
        boolean isPlain;

        void becomeBase(int odd) {
            for (int i = 0; i < Curve.LIMBS; i++) {
                x[i] = ODDS_OF_BASE[2 * odd * Curve.LIMBS + i];
                y[i] = ODDS_OF_BASE[(2 * odd + 1) * Curve.LIMBS + i];
            }
            becomePlain();
        }

        void becomePlain() {
            for (int i = 0; i < Curve.LIMBS; i++) {
                z[i] = i == 0 ? 1 : 0;
            }
            isNone = false;
            isPlain = true;
        }

        void become(Point other) {
            System.arraycopy(other.x, 0, x, 0, Curve.LIMBS);
            System.arraycopy(other.y, 0, y, 0, Curve.LIMBS);
            System.arraycopy(other.z, 0, z, 0, Curve.LIMBS);
            isNone = other.isNone;
            isPlain = other.isPlain;
        }
    }

    /**
     * Points of y^2 = x^3 + 7 modulo p = 2^256 - 2^32 - 977. A number is ten limbs of 26 bits, the lowest first, each
     * with a sign and allowed to be some times greater, which is its size: multiply takes numbers whose sizes have a
     * product of at most 150, so that no sum of ten products of limbs goes beyond a long, and answers one of size 1.
     */
    private static final class Curve {
        static final int LIMBS = 10;
        private static final long LIMB = 0x3FFFFFF;
        private static final long TOP_LIMB = 0x3FFFFF;
        /** 2^260 is FOLD_LOW + 2^26 FOLD_HIGH modulo p. */
        private static final long FOLD_LOW = 0x3D10;
        private static final long FOLD_HIGH = 0x400;
        /**
         * How a root is made, four numbers a step: row [0] = (row [1])^(2^[2]) row [3]. Row 0 has the number itself,
         * and the steps lead to its power of (p + 1) / 4, but for squaring twice at the end.
         */
        private static final byte[] ROOT_STEPS = {
            1, 0, 1, 0,
            2, 1, 1, 0,
            3, 2, 3, 2,
            3, 3, 3, 2,
            3, 3, 2, 1,
            4, 3, 11, 3,
            5, 4, 22, 4,
            3, 5, 44, 5,
            3, 3, 88, 3,
            3, 3, 44, 5,
            3, 3, 3, 2,
            3, 3, 23, 4,
            3, 3, 6, 1};

        private final long[][] rows = new long[6][LIMBS];
        private final long[] limbs = new long[Scalar.LIMBS];
        private final long[] a = new long[LIMBS];
        private final long[] b = new long[LIMBS];
        private final long[] c = new long[LIMBS];
        private final long[] d = new long[LIMBS];
        private final long[] f = new long[LIMBS];

        /** Whether the bytes are a public key; point becomes it. */
        boolean readKey(byte[] from, int at, int length, Point point) {
            boolean isShort = length == 33 && (from[at] == 2 || from[at] == 3);
            boolean isLong = length == 65 && from[at] == 4;
            if (!isShort && !isLong || !readCoordinate(from, at + 1, point.x)) {
                return false;
            }
            multiply(point.x, point.x, a);
            multiply(a, point.x, a);
            a[0] += 7;
            if (isShort) {
                takeRoot(a, point.y);
                settle(point.y);
                if ((point.y[0] & 1) != (from[at] & 1)) {
                    negate(point.y);
                }
            } else if (!readCoordinate(from, at + 33, point.y)) {
                return false;
            }
            point.becomePlain();
            multiply(point.y, point.y, b);
            for (int i = 0; i < LIMBS; i++) {
                a[i] -= b[i];
            }
            settle(a);
            return hasNoBit(a);
        }

        private boolean readCoordinate(byte[] from, int at, long[] to) {
            Scalar.load(from, at, 32, limbs);
            if (Scalar.compare(limbs, Scalar.PRIME) >= 0) {
                return false;
            }
            split(limbs, to);
            return true;
        }

        private static void split(long[] from, long[] to) {
            for (int i = 0; i < Scalar.LIMBS; i++) {
                to[2 * i] = from[i] & LIMB;
                to[2 * i + 1] = from[i] >> 26;
            }
        }

        private static void negate(long[] number) {
            for (int i = 0; i < LIMBS; i++) {
                number[i] = -number[i];
            }
        }

        /** A root of the number, if it has one. */
        private void takeRoot(long[] number, long[] to) {
            System.arraycopy(number, 0, rows[0], 0, LIMBS);
            for (int step = 0; step < ROOT_STEPS.length; step += 4) {
                System.arraycopy(rows[ROOT_STEPS[step + 1]], 0, to, 0, LIMBS);
                for (int i = 0; i < ROOT_STEPS[step + 2]; i++) {
                    multiply(to, to, to);
                }
                multiply(to, rows[ROOT_STEPS[step + 3]], rows[ROOT_STEPS[step]]);
            }
            multiply(rows[3], rows[3], to);
            multiply(to, to, to);
        }

        /** Whether the point's x, whatever its z, is the number. */
        boolean hasX(Point point, long[] number) {
            split(number, a);
            multiply(point.z, point.z, b);
            multiply(a, b, a);
            for (int i = 0; i < LIMBS; i++) {
                a[i] -= point.x[i];
            }
            settle(a);
            return hasNoBit(a);
        }

        /** Sizes: x and y up to 9, z up to 2 in all points, before and behind. */
        void makeTwice(Point p) {
            if (p.isNone) {
                return;
            }
            multiply(p.y, p.z, p.z);
            multiply(p.x, p.x, a);
            multiply(p.y, p.y, b);
            multiply(p.x, b, c);
            multiply(b, b, b);
            for (int i = 0; i < LIMBS; i++) {
                a[i] *= 3;
                p.z[i] *= 2;
            }
            multiply(a, a, d);
            for (int i = 0; i < LIMBS; i++) {
                p.x[i] = d[i] - 8 * c[i];
                c[i] = 4 * c[i] - p.x[i];
            }
            multiply(a, c, p.y);
            for (int i = 0; i < LIMBS; i++) {
                p.y[i] -= 8 * b[i];
            }
            p.isPlain = false;
        }

        /** p becomes p + q, or p - q; false, and p stays, if that would be twice p. q is not the one at infinity. */
        boolean add(Point p, Point q, boolean minus) {
            if (p.isNone) {
                p.become(q);
                if (minus) {
                    negate(p.y);
                }
                return true;
            }
            // x and y of p in a and b, of q in c and d, as they are with the product of both z.
            multiply(p.z, p.z, f);
            multiply(q.x, f, c);
            multiply(f, p.z, f);
            multiply(q.y, f, d);
            if (q.isPlain) {
                System.arraycopy(p.x, 0, a, 0, LIMBS);
                System.arraycopy(p.y, 0, b, 0, LIMBS);
            } else {
                multiply(q.z, q.z, f);
                multiply(p.x, f, a);
                multiply(f, q.z, f);
                multiply(p.y, f, b);
            }
            for (int i = 0; i < LIMBS; i++) {
                c[i] -= a[i];
                d[i] = (minus ? -d[i] : d[i]) - b[i];
            }
            settle(c);
            if (hasNoBit(c)) {
                settle(d);
                p.isNone = !hasNoBit(d);
                return p.isNone;
            }
            multiply(p.z, c, p.z);
            if (!q.isPlain) {
                multiply(p.z, q.z, p.z);
            }
            multiply(c, c, f);
            multiply(c, f, c);
            multiply(a, f, a);
            multiply(b, c, b);
            multiply(d, d, f);
            for (int i = 0; i < LIMBS; i++) {
                p.x[i] = f[i] - c[i] - 2 * a[i];
                a[i] -= p.x[i];
            }
            multiply(d, a, p.y);
            for (int i = 0; i < LIMBS; i++) {
                p.y[i] -= b[i];
            }
            p.isPlain = false;
            return true;
        }

        private static boolean hasNoBit(long[] number) {
            long bits = 0;
            for (int i = 0; i < LIMBS; i++) {
                bits |= number[i];
            }
            return bits == 0;
        }

        /** Makes the number 0 to p - 1, its limbs without sign. One round brings it near 2^256, the next below. */
        private static void settle(long[] number) {
            for (int round = 0; round < 2; round++) {
                long over = number[LIMBS - 1] >> 22;
                number[LIMBS - 1] &= TOP_LIMB;
                number[0] += over * 977;
                number[1] += over << 6;
                for (int i = 0; i < LIMBS - 1; i++) {
                    number[i + 1] += number[i] >> 26;
                    number[i] &= LIMB;
                }
            }
            long ones = number[LIMBS - 1] == TOP_LIMB ? LIMB : 0;
            for (int i = 2; i < LIMBS - 1; i++) {
                ones &= number[i];
            }
            long low = number[0] + 977;
            long next = number[1] + 64 + (low >> 26);
            if (ones == LIMB && next > LIMB) {
                // It is p or above: what is left without p has two limbs.
                for (int i = 2; i < LIMBS; i++) {
                    number[i] = 0;
                }
                number[1] = next & LIMB;
                number[0] = low & LIMB;
            }
        }

        /** to = p q; to may be one of them. Written out, as nearly all the time of a signature is spent here. */
        private static void multiply(long[] p, long[] q, long[] to) {
            long a0 = p[0], a1 = p[1], a2 = p[2], a3 = p[3], a4 = p[4];
            long a5 = p[5], a6 = p[6], a7 = p[7], a8 = p[8], a9 = p[9];
            long b0 = q[0], b1 = q[1], b2 = q[2], b3 = q[3], b4 = q[4];
            long b5 = q[5], b6 = q[6], b7 = q[7], b8 = q[8], b9 = q[9];
            long c10 = a1 * b9 + a2 * b8 + a3 * b7 + a4 * b6 + a5 * b5 + a6 * b4 + a7 * b3 + a8 * b2 + a9 * b1;
            long c11 = a2 * b9 + a3 * b8 + a4 * b7 + a5 * b6 + a6 * b5 + a7 * b4 + a8 * b3 + a9 * b2 + (c10 >> 26);
            long c12 = a3 * b9 + a4 * b8 + a5 * b7 + a6 * b6 + a7 * b5 + a8 * b4 + a9 * b3 + (c11 >> 26);
            long c13 = a4 * b9 + a5 * b8 + a6 * b7 + a7 * b6 + a8 * b5 + a9 * b4 + (c12 >> 26);
            long c14 = a5 * b9 + a6 * b8 + a7 * b7 + a8 * b6 + a9 * b5 + (c13 >> 26);
            long c15 = a6 * b9 + a7 * b8 + a8 * b7 + a9 * b6 + (c14 >> 26);
            long c16 = a7 * b9 + a8 * b8 + a9 * b7 + (c15 >> 26);
            long c17 = a8 * b9 + a9 * b8 + (c16 >> 26);
            long c18 = a9 * b9 + (c17 >> 26);
            long c19 = c18 >> 26;
            c10 &= LIMB;
            c11 &= LIMB;
            c12 &= LIMB;
            c13 &= LIMB;
            c14 &= LIMB;
            c15 &= LIMB;
            c16 &= LIMB;
            c17 &= LIMB;
            c18 &= LIMB;
            to[0] = a0 * b0 + c10 * FOLD_LOW + c19 * (FOLD_HIGH * FOLD_LOW);
            to[1] = a0 * b1 + a1 * b0 + c11 * FOLD_LOW + c10 * FOLD_HIGH + c19 * (FOLD_HIGH * FOLD_HIGH);
            to[2] = a0 * b2 + a1 * b1 + a2 * b0 + c12 * FOLD_LOW + c11 * FOLD_HIGH;
            to[3] = a0 * b3 + a1 * b2 + a2 * b1 + a3 * b0 + c13 * FOLD_LOW + c12 * FOLD_HIGH;
            to[4] = a0 * b4 + a1 * b3 + a2 * b2 + a3 * b1 + a4 * b0 + c14 * FOLD_LOW + c13 * FOLD_HIGH;
            to[5] = a0 * b5 + a1 * b4 + a2 * b3 + a3 * b2 + a4 * b1 + a5 * b0 + c15 * FOLD_LOW + c14 * FOLD_HIGH;
            to[6] = a0 * b6 + a1 * b5 + a2 * b4 + a3 * b3 + a4 * b2 + a5 * b1 + a6 * b0
                    + c16 * FOLD_LOW + c15 * FOLD_HIGH;
            to[7] = a0 * b7 + a1 * b6 + a2 * b5 + a3 * b4 + a4 * b3 + a5 * b2 + a6 * b1 + a7 * b0
                    + c17 * FOLD_LOW + c16 * FOLD_HIGH;
            to[8] = a0 * b8 + a1 * b7 + a2 * b6 + a3 * b5 + a4 * b4 + a5 * b3 + a6 * b2 + a7 * b1 + a8 * b0
                    + c18 * FOLD_LOW + c17 * FOLD_HIGH;
            to[9] = a0 * b9 + a1 * b8 + a2 * b7 + a3 * b6 + a4 * b5 + a5 * b4 + a6 * b3 + a7 * b2 + a8 * b1 + a9 * b0
                    + c19 * FOLD_LOW + c18 * FOLD_HIGH;
            for (int i = 0; i < LIMBS - 1; i++) {
                to[i + 1] += to[i] >> 26;
                to[i] &= LIMB;
            }
            long over = to[9] >> 22;
            to[9] &= TOP_LIMB;
            to[0] += over * 977;
            to[1] += (over << 6) + (to[0] >> 26);
            to[0] &= LIMB;
            to[2] += to[1] >> 26;
            to[1] &= LIMB;
        }
    }
}
