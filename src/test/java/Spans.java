import java.util.ArrayList;
import java.util.List;

/** A chain in a keeper of its own, made of spans: each ends ahead of a HEIGHT that is a multiple of 8, and took a given time. */
public final class Spans {
    public final CoinKeeper keeper = new CoinKeeper();
    private final List<Node> blocks = new ArrayList<>();
    private Node tip = Node.genesis();

    public static Spans begun() {
        return new Spans();
    }

    /** Another keeper with the same blocks. */
    public Spans copied() {
        Spans other = new Spans();
        for (Node block : blocks) {
            other.add(block);
        }
        return other;
    }

    public Node tip() {
        return tip;
    }

    public int wanted() {
        return keeper.tip(11);
    }

    /** Blocks up to the next multiple of 8, so that T of the document is took there. */
    public Spans by(long took) {
        if (tip.height > 0) {
            add(tip.next().time(tip.time + 1).bits(wanted()).mined());
        }
        long begin = tip.time;
        for (int i = 1; i < 7; i++) {
            add(tip.next().time(begin + i).bits(wanted()).mined());
        }
        add(tip.next().time(begin + took).bits(wanted()).mined());
        return this;
    }

    /** The answer for a block of these bits on the tip; it becomes the tip if that is 0. */
    public int next(int bits) {
        Node block = tip.next().bits(bits).mined();
        int answer = block.to(keeper);
        if (answer == 0) {
            tip = block;
            blocks.add(block);
        }
        return answer;
    }

    private void add(Node block) {
        if (block.to(keeper) != 0) {
            throw new IllegalStateException("a block of a span was not taken");
        }
        tip = block;
        blocks.add(block);
    }
}
