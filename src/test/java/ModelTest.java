import java.util.ArrayList;
import java.util.HashMap;
import java.util.List;
import java.util.Map;
import java.util.Random;
import java.util.TreeMap;

/**
 * Chains with branches, and with faults in some blocks, by chance, in a keeper and in the model. The first run and how
 * many may be given: the same number always makes the same run.
 */
public final class ModelTest {
    private static final int RUNS = 15;
    private static final int BLOCKS = 45;
    private static final Checks CHECKS = new Checks("ModelTest");
    private static final Map<String, Integer> SEEN = new TreeMap<>();
    private static final Signer[] SIGNERS = {new Signer(11), new Signer(222), new Signer(3333)};

    private record Lock(int kind, Signer first, Signer second) {
    }

    private final Random random;
    private final Twins twins;
    private final List<Node> nodes = new ArrayList<>();
    /** How the scripts that were made are unlocked, by their bytes. */
    private final Map<String, Lock> locks = new HashMap<>();
    private final long pace;
    /** When the blocks behind the GENESIS begin: locktimes and the sign of times begin to matter there. */
    private final long epoch;
    private Node last = Node.genesis();
    private int marks;

    private ModelTest(int seed) {
        random = new Random(seed);
        twins = new Twins(CHECKS, "run " + seed);
        nodes.add(last);
        pace = new long[] {150, 600, 1000}[seed % 3];
        epoch = new long[] {1000000, 500000000, 0x80000000L - 5000, 1600000000}[seed % 4];
    }

    public static void main(String[] args) {
        int first = args.length > 0 ? Integer.parseInt(args[0]) : 1;
        int runs = args.length > 1 ? Integer.parseInt(args[1]) : RUNS;
        for (int seed = first; seed < first + runs; seed++) {
            new ModelTest(seed).run();
        }
        for (int answer = 0; answer <= 14; answer++) {
            CHECKS.that("there was answer " + answer + " among " + SEEN, SEEN.containsKey("" + answer));
        }
        CHECKS.close();
    }

    private boolean chance(int percent) {
        return random.nextInt(100) < percent;
    }

    private void run() {
        for (int i = 0; i < BLOCKS; i++) {
            Node block = chance(3) ? nodes.get(random.nextInt(nodes.size())) : drawn();
            byte[] bytes = chance(4) ? mangled(block.bytes) : block.bytes;
            int before = twins.model.taken.size();
            twins.row(bytes);
            SEEN.merge(twins.submit(), 1, Integer::sum);
            if (twins.model.taken.size() > before) {
                nodes.add(block);
                last = block;
            }
            twins.look();
        }
        twins.lookAtUnspent(random);
    }

    /** Faults in bytes whose header's work stays done. */
    private byte[] mangled(byte[] bytes) {
        if (bytes.length < 81) {
            return bytes;
        }
        int kind = random.nextInt(3);
        if (kind == 0) {
            return java.util.Arrays.copyOf(bytes, bytes.length - 1 - random.nextInt(bytes.length - 80));
        }
        byte[] other = java.util.Arrays.copyOf(bytes, bytes.length + (kind == 1 ? 1 : 0));
        other[80 + random.nextInt(bytes.length - 80)] ^= (byte) (1 << random.nextInt(8));
        return other;
    }

    private Node parent() {
        if (chance(made(last).bad ? 10 : 50)) {
            return last;
        }
        Model.Made tip = twins.model.tip;
        for (Node node : nodes) {
            if (chance(70) && java.util.Arrays.equals(node.id, tip.id)) {
                return node;
            }
        }
        return nodes.get(nodes.size() - 1 - random.nextInt(Math.min(7, nodes.size())));
    }

    private Model.Made made(Node node) {
        for (Model.Made block : twins.model.taken) {
            if (java.util.Arrays.equals(block.id, node.id)) {
                return block;
            }
        }
        return twins.model.genesis;
    }

    private Node drawn() {
        Node parent = parent();
        Model.Made before = made(parent);
        Node.Draft draft = parent.next().bits(before.wanted()).mark(marks++);
        long median = before.median();
        long step = chance(70) ? 1 + random.nextInt((int) (2 * pace)) : 1;
        long time = chance(3) ? median - random.nextInt(2) : Math.max(median + 1, Math.max(epoch, parent.time) + step);
        draft.time(time);
        Map<String, Model.Out> unspent = before.unspent();
        long fees = 0;
        List<Tx> txs = new ArrayList<>();
        for (int i = random.nextInt(4); i > 0; i--) {
            long[] fee = {0};
            Tx tx = spend(unspent, before.height + 1, time, fee);
            if (tx != null) {
                txs.add(tx);
                fees += fee[0];
            }
        }
        if (chance(3) && !txs.isEmpty()) {
            txs.add(txs.get(txs.size() - 1));
        }
        for (Tx tx : txs) {
            draft.tx(tx);
        }
        return coinbase(draft, fees).mined();
    }

    private Node.Draft coinbase(Node.Draft draft, long fees) {
        long whole = Node.subsidy(draft.height()) + fees + (chance(4) ? 1 : 0) - (chance(20) ? random.nextInt(1000) : 0);
        long part = chance(50) ? whole : Math.floorMod(random.nextLong(), Math.max(1, whole));
        Tx tx = draft.usualCoinbase(part, script());
        while (part < whole) {
            long more = chance(50) ? whole - part : Math.floorMod(random.nextLong(), whole - part + 1);
            tx.out(more, script());
            part += more;
        }
        if (chance(4)) {
            tx.lock(draft.height() - random.nextInt(3) + 1L);
        }
        draft.coinbase(tx);
        if (chance(20)) {
            fault(draft, tx);
        }
        return draft;
    }

    private void fault(Node.Draft draft, Tx coinbase) {
        byte[] height = Node.heightScript(draft.height());
        switch (random.nextInt(12)) {
            case 0 -> draft.wrongBits(new int[] {0x207FFFFE, 0x207FFFFF, 0x1F7FFFFF, 0x20FFFFFF, 0}[random.nextInt(5)]);
            case 1 -> draft.above();
            case 2 -> draft.root(new byte[32]);
            case 3 -> draft.before(Bytes.many(7, 32));
            case 4 -> draft.behind(new byte[1 + random.nextInt(3)]);
            case 5 -> draft.count(new Bytes().count(random.nextInt(400)).made());
            case 6 -> draft.empty();
            case 7 -> coinbase.script(0, Node.heightScript(draft.height() + random.nextInt(3) - 1));
            case 8 -> coinbase.script(0, Bytes.join(height, new byte[100 - height.length + random.nextInt(2)]));
            case 9 -> coinbase.out(0, Bytes.many(172, 38 + random.nextInt(5)));
            case 10 -> coinbase.out(0, Bytes.many(97, 999 + random.nextInt(4)));
            default -> coinbase.out(new long[] {-1, 2100000000000000L, 2100000000000001L}[random.nextInt(3)]);
        }
    }

    /** A TX that spends some of what is unspent, which is changed so; null if nothing is. */
    private Tx spend(Map<String, Model.Out> unspent, int height, long time, long[] fee) {
        List<String> names = new ArrayList<>();
        for (Map.Entry<String, Model.Out> entry : unspent.entrySet()) {
            Model.Out out = entry.getValue();
            if (!out.isOfCoinbase || out.height + 5 <= height || chance(2)) {
                names.add(entry.getKey());
            }
        }
        if (names.isEmpty()) {
            return null;
        }
        Tx tx = new Tx().version(random.nextInt());
        List<Model.Out> spent = new ArrayList<>();
        long have = 0;
        for (int i = 1 + random.nextInt(3); i > 0 && !names.isEmpty(); i--) {
            String name = names.get(random.nextInt(names.size()));
            // One that is taken twice is a fault, too.
            if (!chance(2)) {
                names.remove(name);
            }
            Model.Out out = unspent.get(name);
            tx.in(out.id, chance(1) ? out.index + 1L : out.index, Tx.NONE, chance(90) ? Tx.LAST : random.nextInt(3));
            spent.add(out);
            have += out.value;
        }
        if (chance(15)) {
            long[] locks = {1, height - 1L, height, 499999999, 500000000, time - 1, time};
            tx.lock(locks[random.nextInt(locks.length)]);
        }
        long out = 0;
        for (int i = 1 + random.nextInt(3); i > 0; i--) {
            long value = i == 1 && chance(70) ? have - out + (chance(4) ? 1 : 0) : Math.floorMod(random.nextLong(), Math.max(1, have - out));
            tx.out(value, script());
            out += value;
        }
        for (int i = 0; i < spent.size(); i++) {
            tx.script(i, unlocked(tx, i, spent.get(i).script));
        }
        fee[0] = have - out;
        take(tx, spent, unspent);
        return tx;
    }

    /** The outputs of a TX may be spent within its block. */
    private static void take(Tx tx, List<Model.Out> spent, Map<String, Model.Out> unspent) {
        unspent.values().removeAll(spent);
        Model.Part part = Model.tx(tx.bytes());
        for (int i = 0; i < part.outs.size(); i++) {
            Model.Out out = part.outs.get(i);
            out.id = part.id;
            out.index = i;
            unspent.put(Bytes.text(part.id) + ":" + i, out);
        }
    }

    private byte[] script() {
        int kind = chance(45) ? 0 : random.nextInt(9);
        Signer a = SIGNERS[random.nextInt(3)];
        Signer b = SIGNERS[random.nextInt(3)];
        byte[] key = Signer.pushed(chance(50) ? a.shortKey() : a.longKey());
        byte[] second = Signer.pushed(b.shortKey());
        byte[] script = switch (kind) {
            case 0 -> Tx.ONE;
            case 1 -> Bytes.join(key, Bytes.of(172));
            case 2 -> Bytes.join(Bytes.of(118, 169), Signer.pushed(ModelRipemd.of(Bytes.sha(a.shortKey()))), Bytes.of(136, 172));
            case 3 -> Bytes.join(Bytes.of(81), key, second, Bytes.of(82, 174));
            case 4 -> Bytes.join(Bytes.of(82), key, second, Bytes.of(82, 175, 81));
            case 5 -> Bytes.join(Bytes.of(168), Signer.pushed(Bytes.sha(Bytes.of(5, 6))), Bytes.of(135));
            case 6 -> Bytes.of(147, 81 + random.nextInt(16), 156);
            case 7 -> Bytes.join(Bytes.of(99), key, Bytes.of(103), second, Bytes.of(104, 173, 81));
            default -> wild(random.nextInt(8));
        };
        locks.put(Bytes.text(script), new Lock(kind, a, b));
        return script;
    }

    /** A script of ops by chance. */
    private byte[] wild(int length) {
        Bytes all = new Bytes();
        for (int i = 0; i < length; i++) {
            all.number(chance(60) ? 81 + random.nextInt(16) : random.nextInt(256), 1);
        }
        return all.made();
    }

    private byte[] unlocked(Tx tx, int in, byte[] script) {
        if (chance(3)) {
            return wild(random.nextInt(6));
        }
        byte[] message = tx.message(in, script);
        // The outputs that a fault adds have none.
        Lock lock = locks.getOrDefault(Bytes.text(script), new Lock(0, SIGNERS[0], SIGNERS[0]));
        return switch (lock.kind) {
            case 0 -> chance(90) ? Tx.NONE : Bytes.of(0);
            case 1 -> sig(message, lock.first);
            case 2 -> Bytes.join(sig(message, lock.first), Signer.pushed(lock.first.shortKey()));
            case 3 -> Bytes.join(Bytes.of(0), sig(message, chance(50) ? lock.first : lock.second));
            case 4 -> Bytes.join(Bytes.of(0), sig(message, lock.first), sig(message, lock.second));
            case 5 -> Bytes.of(2, 5, 6);
            case 6 -> Bytes.of(81, 1, script[1] - (chance(95) ? 81 : 80));
            case 7 -> chance(50) ? Bytes.join(sig(message, lock.first), Bytes.of(81))
                    : Bytes.join(sig(message, lock.second), Bytes.of(0));
            default -> wild(random.nextInt(4));
        };
    }

    /** The push of a SIG, which is a wrong one at times. */
    private byte[] sig(byte[] message, Signer signer) {
        byte[] sig = signer.sig(message);
        if (chance(4)) {
            sig[random.nextInt(sig.length)] ^= (byte) (1 << random.nextInt(8));
        }
        return Signer.pushed(sig);
    }
}
