import java.util.Random;

/** A keeper and the model: each call goes to both, and their answers must be the same. */
public final class Twins {
    public final CoinKeeper keeper = new CoinKeeper();
    public final Model model = new Model();
    private final Checks checks;
    private final String name;
    private int calls;

    public Twins(Checks checks, String name) {
        this.checks = checks;
        this.name = name;
    }

    private static String answer(Checks.Call call) {
        try {
            return Long.toString(call.made());
        } catch (RuntimeException e) {
            return "throws." + e.getClass().getSimpleName();
        }
    }

    private String both(String what, Checks.Call ofKeeper, Checks.Call ofModel) {
        calls++;
        String due = answer(ofModel);
        checks.equal(name + ", call " + calls + ", " + what, answer(ofKeeper), due);
        return due;
    }

    public void feed(int a, int b, int c, int d, int e) {
        both("feed", () -> keeper.feed(a, b, c, d, e), () -> model.feed(a, b, c, d, e));
    }

    public void end(int n) {
        both("end(" + n + ")", () -> keeper.end(n), () -> model.end(n));
    }

    /** Makes THE ROW these bytes, and lets what is fed too much be cut. */
    public void row(byte[] bytes) {
        end(0);
        for (int at = 0; at < bytes.length; at += 20) {
            byte[] part = java.util.Arrays.copyOfRange(bytes, at, at + 20);
            int[] words = new int[5];
            for (int i = 0; i < 5; i++) {
                words[i] = Integer.reverseBytes(Bytes.word(part, i));
            }
            feed(words[0], words[1], words[2], words[3], words[4]);
        }
        end(bytes.length);
    }

    public String submit() {
        return both("submit", keeper::submit, model::submit);
    }

    public String script(int n) {
        return both("script(" + n + ")", () -> keeper.script(n) ? 1 : 0, () -> model.script(n) ? 1 : 0);
    }

    public String signed(int n) {
        return both("signed(" + n + ")", () -> keeper.signed(n) ? 1 : 0, () -> model.signed(n) ? 1 : 0);
    }

    public void unspent(int i) {
        both("unspent(" + i + ")", () -> keeper.unspent(i), () -> model.unspent(i));
    }

    /** All that can be asked, and some that cannot. */
    public void look() {
        for (int k = -1; k <= 12; k++) {
            int asked = k;
            both("tip(" + k + ")", () -> keeper.tip(asked), () -> model.tip(asked));
            both("hash(" + k + ")", () -> keeper.hash(asked), () -> model.hash(asked));
            both("count(" + k + ")", () -> keeper.count(asked), () -> model.count(asked));
        }
        both("digest", keeper::digest, model::digest);
    }

    /** Asks for each unspent OUTPUT, and for some that may not be. */
    public void lookAtUnspent(Random random) {
        for (Model.Made block : model.taken) {
            Model.Part tx = block.txs.get(random.nextInt(block.txs.size()));
            row(tx.id);
            unspent(random.nextInt(tx.outs.size() + 1));
        }
        for (Model.Out out : model.tip.unspent().values()) {
            row(out.id);
            unspent(out.index);
        }
    }
}
