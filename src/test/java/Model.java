import java.math.BigInteger;
import java.util.ArrayList;
import java.util.Arrays;
import java.util.Collections;
import java.util.HashSet;
import java.util.LinkedHashMap;
import java.util.List;
import java.util.Map;
import java.util.NoSuchElementException;
import java.util.Set;

/**
 * The document read a second time, as plainly as can be: numbers are exact, and what is unspent is made from the
 * GENESIS on whenever it is asked for. It has CoinKeeper's calls, and nothing of its program.
 */
public final class Model {
    private static final long MOST = 2100000000000000L;
    private static final long LAST = 0xFFFFFFFFL;
    private static final BigInteger LIMIT = target(0x207FFFFF);

    /** Bytes are not right. */
    private static final class NotRight extends RuntimeException {
        private static final long serialVersionUID = 1;
    }

    public static final class In {
        byte[] hash;
        long index;
        byte[] script;
        long sequence;

        String spends() {
            return Bytes.text(hash) + ":" + index;
        }

        boolean isOfCoinbase() {
            return Arrays.equals(hash, new byte[32]) && index == LAST;
        }
    }

    public static final class Out {
        long value;
        byte[] script;
        int height;
        boolean isOfCoinbase;
        byte[] id;
        int index;
    }

    public static final class Part {
        long version;
        final List<In> ins = new ArrayList<>();
        final List<Out> outs = new ArrayList<>();
        long lock;
        byte[] id;

        BigInteger values() {
            BigInteger sum = BigInteger.ZERO;
            for (Out out : outs) {
                sum = sum.add(BigInteger.valueOf(out.value));
            }
            return sum;
        }

        /** What a SIG of an input signs. */
        byte[] message(In signed, byte[] script) {
            Bytes all = new Bytes().number(version, 4).count(ins.size());
            for (In in : ins) {
                byte[] shown = in == signed ? script : new byte[0];
                all.add(in.hash).number(in.index, 4).count(shown.length).add(shown).number(in.sequence, 4);
            }
            all.count(outs.size());
            for (Out out : outs) {
                all.number(out.value, 8).count(out.script.length).add(out.script);
            }
            return Bytes.hash(all.number(lock, 4).number(1, 4).made());
        }
    }

    public static final class Made {
        Made before;
        byte[] id;
        byte[] beforeId;
        byte[] root;
        long time;
        int bits;
        int height;
        int size;
        boolean bad;
        final List<Part> txs = new ArrayList<>();

        BigInteger work() {
            BigInteger own = BigInteger.ONE.shiftLeft(256).divide(target(bits).add(BigInteger.ONE));
            return before == null ? own : own.add(before.work());
        }

        Made at(int wanted) {
            return height == wanted ? this : before.at(wanted);
        }

        long median() {
            List<Long> times = new ArrayList<>();
            for (Made one = this; one != null && times.size() < 11; one = one.before) {
                times.add(one.time);
            }
            Collections.sort(times);
            return times.get(times.size() / 2);
        }

        int wanted() {
            int next = height + 1;
            if (next % 8 != 0) {
                return bits;
            }
            long took = Math.max(1200, Math.min(19200, time - at(next - 8).time));
            BigInteger scaled = target(bits).multiply(BigInteger.valueOf(took)).divide(BigInteger.valueOf(4800));
            return bits(scaled.min(LIMIT));
        }

        /** What is unspent if this is THE TIP. */
        Map<String, Out> unspent() {
            Map<String, Out> all = before == null ? new LinkedHashMap<>() : before.unspent();
            for (Part tx : txs) {
                exchange(this, tx, all);
            }
            return all;
        }
    }

    private byte[] row = new byte[0];
    final List<Made> taken = new ArrayList<>();
    final Made genesis = new Made();
    Made tip = genesis;

    public Model() {
        genesis.id = new byte[32];
        genesis.time = 1000000;
        genesis.bits = 0x207FFFFF;
    }

    static BigInteger target(int bits) {
        BigInteger m = BigInteger.valueOf(bits & 0xFFFFFF);
        int shift = 8 * ((bits >>> 24) - 3);
        return shift < 0 ? m.shiftRight(-shift) : m.shiftLeft(shift);
    }

    static int bits(BigInteger number) {
        int e = (number.bitLength() + 7) / 8;
        e += number.bitLength() % 8 == 0 ? 1 : 0;
        return e << 24 | number.shiftLeft(24).shiftRight(8 * e).intValue();
    }

    /** A TX from its bytes. */
    static Part tx(byte[] bytes) {
        return new Reader(bytes).tx();
    }

    public int feed(int a, int b, int c, int d, int e) {
        if (row.length + 20 > 3000) {
            throw new IllegalStateException();
        }
        Bytes all = new Bytes().add(row);
        for (int word : new int[] {a, b, c, d, e}) {
            all.number(Integer.reverseBytes(word), 4);
        }
        row = all.made();
        return row.length;
    }

    public int end(int n) {
        if (n < 0 || n > row.length) {
            throw new IllegalArgumentException();
        }
        row = Arrays.copyOf(row, n);
        return n;
    }

    public int submit() {
        int bytes = row.length;
        for (Made block : taken) {
            bytes += block.size;
        }
        if (taken.size() == 200 || bytes > 100000) {
            throw new IllegalStateException();
        }
        byte[] given = row;
        row = new byte[0];
        Made block;
        try {
            block = new Reader(given).block();
        } catch (NotRight e) {
            return 1;
        }
        int why = whyNotTaken(block);
        if (why != 0) {
            return why;
        }
        taken.add(block);
        return block.work().compareTo(tip.work()) > 0 ? change(block) : 1;
    }

    private Made known(byte[] id) {
        for (Made block : taken) {
            if (Arrays.equals(block.id, id)) {
                return block;
            }
        }
        return Arrays.equals(genesis.id, id) ? genesis : null;
    }

    private int whyNotTaken(Made block) {
        if (known(block.id) != null) {
            return 2;
        }
        block.before = known(block.beforeId);
        if (block.before == null) {
            return 3;
        }
        block.height = block.before.height + 1;
        if (block.before.bad) {
            return 4;
        }
        if (block.bits != block.before.wanted()) {
            return 5;
        }
        byte[] highFirst = new byte[32];
        for (int i = 0; i < 32; i++) {
            highFirst[i] = block.id[31 - i];
        }
        if (new BigInteger(1, highFirst).compareTo(target(block.bits)) > 0) {
            return 6;
        }
        if (block.time <= block.before.median()) {
            return 7;
        }
        return !rootIsRight(block) ? 8 : isSound(block) ? 0 : 9;
    }

    private static boolean rootIsRight(Made block) {
        List<byte[]> hashes = new ArrayList<>();
        for (Part tx : block.txs) {
            hashes.add(tx.id);
        }
        boolean twins = false;
        while (hashes.size() > 1) {
            List<byte[]> next = new ArrayList<>();
            for (int i = 0; i < hashes.size(); i += 2) {
                boolean isAlone = i + 1 == hashes.size();
                byte[] second = hashes.get(isAlone ? i : i + 1);
                twins |= !isAlone && Arrays.equals(hashes.get(i), second);
                next.add(Bytes.hash(Bytes.join(hashes.get(i), second)));
            }
            hashes = next;
        }
        return !twins && Arrays.equals(block.root, hashes.isEmpty() ? new byte[32] : hashes.get(0));
    }

    private static boolean isSound(Made block) {
        boolean sound = !block.txs.isEmpty();
        int sigs = 0;
        for (Part tx : block.txs) {
            boolean isFirst = tx == block.txs.get(0);
            sound &= !tx.ins.isEmpty() && !tx.outs.isEmpty() && tx.values().compareTo(BigInteger.valueOf(MOST)) <= 0;
            boolean allLast = true;
            Set<String> seen = new HashSet<>();
            for (In in : tx.ins) {
                sound &= seen.add(in.spends()) && in.isOfCoinbase() == isFirst && in.script.length <= 1000;
                allLast &= in.sequence == LAST;
                sigs += sigs(in.script);
            }
            for (Out out : tx.outs) {
                sound &= out.value >= 0 && out.value <= MOST && out.script.length <= 1000;
                sigs += sigs(out.script);
            }
            sound &= !isFirst || tx.ins.size() == 1 && beginsWell(tx.ins.get(0).script, block.height);
            long than = tx.lock < 500000000 ? block.height : block.time;
            sound &= tx.lock == 0 || tx.lock < than || allLast;
        }
        return sound && sigs <= 40;
    }

    private static boolean beginsWell(byte[] script, int height) {
        byte[] due = height <= 16 ? Bytes.of(80 + height)
                : Signer.pushed(height < 128 ? Bytes.of(height) : Bytes.of(height % 256, height / 256));
        return script.length >= 2 && script.length <= 100 && script.length >= due.length
                && Arrays.equals(Arrays.copyOf(script, due.length), due);
    }

    private static int sigs(byte[] script) {
        int sum = 0;
        for (int at = 0; at < script.length; at++) {
            int op = script[at] & 255;
            if (op < 76) {
                at += op;
            } else if (op == 76) {
                at += at + 1 < script.length ? 1 + (script[at + 1] & 255) : 1;
            } else {
                sum += op == 172 || op == 173 ? 1 : op == 174 || op == 175 ? 20 : 0;
            }
        }
        return sum;
    }

    private int change(Made block) {
        List<Made> way = new ArrayList<>();
        Set<Made> old = new HashSet<>();
        for (Made one = tip; one != null; one = one.before) {
            old.add(one);
        }
        Made one = block;
        for (; !old.contains(one); one = one.before) {
            way.add(0, one);
        }
        Map<String, Out> unspent = one.unspent();
        for (Made next : way) {
            int why = whyNotValid(next, unspent);
            if (why != 0) {
                next.bad = true;
                // Blocks stand behind those before them.
                for (Made other : taken) {
                    other.bad |= other.before.bad;
                }
                return why;
            }
        }
        tip = block;
        return 0;
    }

    private static void exchange(Made block, Part tx, Map<String, Out> unspent) {
        for (In in : tx.ins) {
            unspent.remove(in.spends());
        }
        for (int i = 0; i < tx.outs.size(); i++) {
            Out out = tx.outs.get(i);
            out.height = block.height;
            out.isOfCoinbase = tx == block.txs.get(0);
            out.id = tx.id;
            out.index = i;
            unspent.put(Bytes.text(tx.id) + ":" + i, out);
        }
    }

    private static int whyNotValid(Made block, Map<String, Out> unspent) {
        BigInteger over = BigInteger.valueOf(5000000000L / (1L << block.height / 20));
        Part coinbase = block.txs.get(0);
        for (Part tx : block.txs) {
            if (tx != coinbase) {
                int why = whyNotValid(tx, block.height, unspent);
                if (why != 0) {
                    return why;
                }
                for (In in : tx.ins) {
                    over = over.add(BigInteger.valueOf(unspent.get(in.spends()).value));
                }
                over = over.subtract(tx.values());
            }
            exchange(block, tx, unspent);
        }
        return coinbase.values().compareTo(over) > 0 ? 14 : 0;
    }

    private static int whyNotValid(Part tx, int height, Map<String, Out> unspent) {
        for (In in : tx.ins) {
            if (!unspent.containsKey(in.spends())) {
                return 10;
            }
        }
        BigInteger have = BigInteger.ZERO;
        for (In in : tx.ins) {
            Out out = unspent.get(in.spends());
            if (out.isOfCoinbase && out.height + 5 > height) {
                return 11;
            }
            have = have.add(BigInteger.valueOf(out.value));
        }
        if (have.compareTo(tx.values()) < 0) {
            return 12;
        }
        for (In in : tx.ins) {
            byte[] script = unspent.get(in.spends()).script;
            byte[] message = tx.message(in, script);
            if (!ModelScript.leaveTrue(in.script, script, (sig, key) -> ModelSig.holds(message, key, sig))) {
                return 13;
            }
        }
        return 0;
    }

    public boolean script(int n) {
        if (n < 0 || n > row.length || n > 1000 || row.length - n > 1000) {
            throw new IllegalArgumentException();
        }
        byte[] given = row;
        row = new byte[0];
        return ModelScript.leaveTrue(Arrays.copyOf(given, n), Arrays.copyOfRange(given, n, given.length),
                (sig, key) -> false);
    }

    public int hash(int k) {
        if (k < 0 || k > 7) {
            throw new IllegalArgumentException();
        }
        return Bytes.word(Bytes.hash(row), k);
    }

    public int tip(int k) {
        if (k < 0 || k > 11) {
            throw new IllegalArgumentException();
        }
        return k < 8 ? Bytes.word(tip.id, k) : new int[] {tip.height, (int) tip.time, tip.bits, tip.wanted()}[k - 8];
    }

    public long unspent(int i) {
        if (row.length != 32) {
            throw new IllegalArgumentException();
        }
        Out out = tip.unspent().get(Bytes.text(row) + ":" + Integer.toUnsignedLong(i));
        if (out == null) {
            throw new NoSuchElementException();
        }
        return out.value;
    }

    public long count(int what) {
        if (what < 0 || what > 5) {
            throw new IllegalArgumentException();
        }
        return switch (what) {
            case 0 -> taken.size();
            case 1 -> taken.stream().filter(block -> block.bad).count();
            case 2 -> tip.unspent().size();
            case 3 -> tip.unspent().values().stream().mapToLong(out -> out.value).sum();
            case 4 -> tip.work().longValue();
            default -> row.length;
        };
    }

    public long digest() {
        BigInteger sum = BigInteger.ZERO;
        BigInteger by = BigInteger.valueOf(31);
        for (Out out : tip.unspent().values()) {
            BigInteger w = BigInteger.valueOf(Bytes.word(out.id, 0));
            BigInteger x = by.multiply(w).add(BigInteger.valueOf(out.index)).multiply(by).add(BigInteger.valueOf(out.value));
            sum = sum.add(x.multiply(x)).add(x);
        }
        return sum.longValue();
    }

    public boolean signed(int n) {
        if (n < 0 || n > 100 || row.length < 33 + n || row.length > 112 + n) {
            throw new IllegalArgumentException();
        }
        return ModelSig.holds(Arrays.copyOf(row, 32), Arrays.copyOfRange(row, 32, 32 + n),
                Arrays.copyOfRange(row, 32 + n, row.length));
    }

    /** Reads a BLOCK from its bytes. */
    private static final class Reader {
        private final byte[] from;
        private int at;

        Reader(byte[] from) {
            this.from = from;
        }

        private byte[] bytes(long many) {
            if (many > from.length - at) {
                throw new NotRight();
            }
            at += (int) many;
            return Arrays.copyOfRange(from, at - (int) many, at);
        }

        private long number(int size) {
            byte[] read = bytes(size);
            long sum = 0;
            for (int i = 0; i < size; i++) {
                sum |= (read[i] & 255L) << 8 * i;
            }
            return sum;
        }

        private long count() {
            int begin = at;
            int first = (int) number(1);
            long many = first < 253 ? first : number(first == 253 ? 2 : 4);
            if (first == 255 || new Bytes().count(many).made().length != at - begin) {
                throw new NotRight();
            }
            return many;
        }

        Made block() {
            Made block = new Made();
            block.size = from.length;
            block.id = Bytes.hash(bytes(80));
            at = 4;
            block.beforeId = bytes(32);
            block.root = bytes(32);
            block.time = number(4);
            block.bits = (int) number(4);
            at += 4;
            for (long many = count(); many > 0; many--) {
                block.txs.add(tx());
            }
            if (at != from.length) {
                throw new NotRight();
            }
            return block;
        }

        private Part tx() {
            Part tx = new Part();
            int begin = at;
            tx.version = number(4);
            for (long many = count(); many > 0; many--) {
                In in = new In();
                in.hash = bytes(32);
                in.index = number(4);
                in.script = bytes(count());
                in.sequence = number(4);
                tx.ins.add(in);
            }
            for (long many = count(); many > 0; many--) {
                Out out = new Out();
                out.value = number(8);
                out.script = bytes(count());
                tx.outs.add(out);
            }
            tx.lock = number(4);
            tx.id = Bytes.hash(Arrays.copyOfRange(from, begin, at));
            return tx;
        }
    }
}
