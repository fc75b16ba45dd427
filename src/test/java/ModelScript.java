import java.util.ArrayList;
import java.util.Arrays;
import java.util.List;

/** The document's SCRIPTS read a second time, as plainly as can be. */
public final class ModelScript {
    /** Tells of SIGS. */
    public interface Sigs {
        boolean hold(byte[] sig, byte[] key);
    }

    private static final class Fails extends RuntimeException {
        private static final long serialVersionUID = 1;
    }

    private static final byte[] TRUE = {1};
    private static final byte[] FALSE = {};

    private final Sigs sigs;
    private final List<byte[]> stack = new ArrayList<>();
    private List<byte[]> other;
    private List<Boolean> ifs;
    private int many;

    private ModelScript(Sigs sigs) {
        this.sigs = sigs;
    }

    /** Whether both scripts, one behind the other, leave something true on top. */
    public static boolean leaveTrue(byte[] first, byte[] second, Sigs sigs) {
        ModelScript model = new ModelScript(sigs);
        try {
            model.run(first);
            model.run(second);
            return isTrue(model.pop());
        } catch (Fails e) {
            return false;
        }
    }

    /** What one script leaves on the stack, the lowest first, or null if it fails. */
    public static List<byte[]> left(byte[] script) {
        ModelScript model = new ModelScript((sig, key) -> false);
        try {
            model.run(script);
            return model.stack;
        } catch (Fails e) {
            return null;
        }
    }

    private static void need(boolean what) {
        if (!what) {
            throw new Fails();
        }
    }

    private void run(byte[] script) {
        other = new ArrayList<>();
        ifs = new ArrayList<>();
        many = 0;
        int at = 0;
        while (at < script.length) {
            int op = script[at++] & 255;
            boolean isTaken = !ifs.contains(false);
            if (op <= 76) {
                int length = op;
                if (op == 76) {
                    need(at < script.length);
                    length = script[at++] & 255;
                }
                need(at + length <= script.length);
                if (isTaken) {
                    stack.add(Arrays.copyOfRange(script, at, at + length));
                }
                at += length;
            } else {
                many += op > 96 ? 1 : 0;
                need(many <= 201);
                if (op == 99 || op == 100 || op == 103 || op == 104) {
                    fork(op, isTaken);
                } else if (isTaken) {
                    step(op);
                }
            }
            need(stack.size() + other.size() <= 200);
        }
        need(ifs.isEmpty());
    }

    private void fork(int op, boolean isTaken) {
        if (op == 99 || op == 100) {
            ifs.add(isTaken && isTrue(pop()) == (op == 99));
            return;
        }
        need(!ifs.isEmpty());
        boolean last = ifs.remove(ifs.size() - 1);
        if (op == 103) {
            ifs.add(!last);
        }
    }

    private byte[] pop() {
        need(!stack.isEmpty());
        return stack.remove(stack.size() - 1);
    }

    /** A thing by its depth, which stays: 0 is the one on top. */
    private byte[] peek(long depth) {
        need(depth >= 0 && depth < stack.size());
        return stack.get(stack.size() - 1 - (int) depth);
    }

    private void push(byte[] thing) {
        stack.add(thing);
    }

    private void push(boolean truth) {
        stack.add(truth ? TRUE : FALSE);
    }

    private void push(long number) {
        if (number == 0) {
            stack.add(FALSE);
            return;
        }
        List<Byte> bytes = new ArrayList<>();
        for (long rest = Math.abs(number); rest > 0; rest /= 256) {
            bytes.add((byte) rest);
        }
        if ((bytes.get(bytes.size() - 1) & 128) != 0) {
            bytes.add((byte) 0);
        }
        byte[] thing = new byte[bytes.size()];
        for (int i = 0; i < thing.length; i++) {
            thing[i] = bytes.get(i);
        }
        thing[thing.length - 1] |= (byte) (number < 0 ? 128 : 0);
        stack.add(thing);
    }

    private static boolean isTrue(byte[] thing) {
        boolean isZero = true;
        for (int i = 0; i < thing.length; i++) {
            int value = thing[i] & 255;
            isZero &= value == 0 || value == 128 && i == thing.length - 1;
        }
        return !isZero;
    }

    private long number() {
        byte[] thing = pop();
        need(thing.length <= 4);
        long sum = 0;
        for (int i = 0; i < thing.length; i++) {
            int value = thing[i] & (i == thing.length - 1 ? 127 : 255);
            sum += (long) value << 8 * i;
        }
        return thing.length > 0 && (thing[thing.length - 1] & 128) != 0 ? -sum : sum;
    }

    private void verify() {
        need(isTrue(pop()));
    }

    private void step(int op) {
        if (op == 79) {
            push(-1);
        } else if (op >= 81 && op <= 96) {
            push(op - 80L);
        } else if (op == 105) {
            verify();
        } else if (op == 107) {
            other.add(pop());
        } else if (op == 108) {
            need(!other.isEmpty());
            push(other.remove(other.size() - 1));
        } else if (op == 109 || op == 110 || op >= 115 && op <= 125 || op == 130) {
            move(op);
        } else if (op == 135 || op == 136) {
            push(Arrays.equals(pop(), pop()));
            if (op == 136) {
                verify();
            }
        } else if (op == 139 || op == 140 || op >= 143 && op <= 146) {
            change(op, number());
        } else if (op == 147 || op == 148 || op >= 154 && op <= 164) {
            long b = number();
            join(op, number(), b);
        } else if (op == 165) {
            long max = number();
            long min = number();
            long x = number();
            push(min <= x && x < max);
        } else if (op == 166 || op >= 168 && op <= 170) {
            byte[] thing = op == 166 ? pop() : Bytes.sha(pop());
            push(op == 168 ? thing : op == 170 ? Bytes.sha(thing) : ModelRipemd.of(thing));
        } else if (op >= 172 && op <= 175) {
            push(op < 174 ? one() : several());
            if (op == 173 || op == 175) {
                verify();
            }
        } else {
            need(op == 97);
        }
    }

    private void move(int op) {
        if (op == 116) {
            push((long) stack.size());
        } else if (op == 118) {
            push(peek(0));
        } else if (op == 130) {
            push((long) peek(0).length);
        } else if (op == 120) {
            push(peek(1));
        } else if (op == 110) {
            push(peek(1));
            push(peek(1));
        } else if (op == 121 || op == 122) {
            need(stack.size() >= 2);
            long depth = number();
            byte[] thing = peek(depth);
            if (op == 122) {
                stack.remove(stack.size() - 1 - (int) depth);
            }
            push(thing);
        } else {
            byte[] top = pop();
            byte[] second = op == 115 || op == 117 ? null : pop();
            byte[] third = op == 123 ? pop() : null;
            byte[][][] left = {
                {top}, null, {}, null, {top}, null, null, null, {second, top, third}, {top, second}, {top, second, top}};
            if (op == 115 && isTrue(top)) {
                push(top);
            }
            // 2DROP leaves nothing.
            for (byte[] thing : op == 109 ? new byte[0][] : left[op - 115]) {
                push(thing);
            }
        }
    }

    private void change(int op, long n) {
        if (op == 145 || op == 146) {
            push(n == 0 == (op == 145));
        } else {
            push(op == 139 ? n + 1 : op == 140 ? n - 1 : op == 143 ? -n : n < 0 ? -n : n);
        }
    }

    private void join(int op, long a, long b) {
        if (op == 147 || op == 148) {
            push(op == 147 ? a + b : a - b);
        } else if (op == 163 || op == 164) {
            push(op == 163 == a < b ? a : b);
        } else {
            boolean[] truths = {a != 0 & b != 0, a != 0 | b != 0, a == b, a == b, a != b, a < b, a > b, a <= b, a >= b};
            push(truths[op - 154]);
            if (op == 157) {
                verify();
            }
        }
    }

    private boolean one() {
        byte[] key = pop();
        byte[] sig = pop();
        return sigs.hold(sig, key);
    }

    /** A number of 0 to most, and as many things. */
    private List<byte[]> counted(int most, boolean areKeys) {
        long wanted = number();
        need(wanted >= 0 && wanted <= most);
        many += areKeys ? (int) wanted : 0;
        need(many <= 201);
        List<byte[]> things = new ArrayList<>();
        while (things.size() < wanted) {
            things.add(pop());
        }
        return things;
    }

    private boolean several() {
        List<byte[]> keys = counted(20, true);
        List<byte[]> wanted = counted(keys.size(), false);
        pop();
        int found = 0;
        for (int k = 0; k < keys.size() && found < wanted.size(); k++) {
            if (sigs.hold(wanted.get(found), keys.get(k))) {
                found++;
            }
        }
        return found == wanted.size();
    }
}
