import java.util.ArrayList;
import java.util.List;

/** Makes the bytes of a TX. */
public final class Tx {
    public static final byte[] NONE = new byte[0];
    public static final byte[] ONE = Bytes.of(81);
    public static final long LAST = 0xFFFFFFFFL;

    private static final class In {
        byte[] id;
        long index;
        byte[] script;
        long sequence;
    }

    private static final class Out {
        long value;
        byte[] script;
    }

    private final List<In> ins = new ArrayList<>();
    private final List<Out> outs = new ArrayList<>();
    private long version = 1;
    private long lock;

    public Tx version(long number) {
        version = number;
        return this;
    }

    public Tx lock(long number) {
        lock = number;
        return this;
    }

    public Tx in(byte[] id, long index, byte[] script, long sequence) {
        In in = new In();
        in.id = id;
        in.index = index;
        in.script = script;
        in.sequence = sequence;
        ins.add(in);
        return this;
    }

    public Tx in(byte[] id, long index) {
        return in(id, index, NONE, LAST);
    }

    public Tx in(Tx from, long index) {
        return in(from.id(), index);
    }

    public Tx out(long value, byte[] script) {
        Out out = new Out();
        out.value = value;
        out.script = script;
        outs.add(out);
        return this;
    }

    public Tx out(long value) {
        return out(value, ONE);
    }

    public Tx script(int in, byte[] script) {
        ins.get(in).script = script;
        return this;
    }

    public long valueOut() {
        long sum = 0;
        for (Out out : outs) {
            sum += out.value;
        }
        return sum;
    }

    public byte[] bytes() {
        return bytes(-1, null);
    }

    /** What a signature of an input that spends an output with this script signs. */
    public byte[] message(int in, byte[] script) {
        return Bytes.hash(Bytes.join(bytes(in, script), Bytes.of(1, 0, 0, 0)));
    }

    private byte[] bytes(int signed, byte[] script) {
        Bytes all = new Bytes().number(version, 4).count(ins.size());
        for (int i = 0; i < ins.size(); i++) {
            In in = ins.get(i);
            byte[] shown = script == null ? in.script : i == signed ? script : NONE;
            all.add(in.id).number(in.index, 4).count(shown.length).add(shown).number(in.sequence, 4);
        }
        all.count(outs.size());
        for (Out out : outs) {
            all.number(out.value, 8).count(out.script.length).add(out.script);
        }
        return all.number(lock, 4).made();
    }

    public byte[] id() {
        return Bytes.hash(bytes());
    }
}
