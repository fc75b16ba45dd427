/** Promises 4 and 7 to 10: the branch with the most work, branches that are left again, and bad ones. */
public final class BranchTest {
    private static final Checks CHECKS = new Checks("BranchTest");

    public static void main(String[] args) {
        firstStays();
        thereAndBack();
        spentAgain();
        badAtItsPlace();
        badBehind();
        workNotLength();
        CHECKS.close();
    }

    private static void tipIs(String what, CoinKeeper keeper, Node node) {
        for (int k = 0; k < 8; k++) {
            CHECKS.equal(what + ": tip " + k, keeper.tip(k), Bytes.word(node.id, k));
        }
        CHECKS.equal(what + ": height", keeper.tip(8), node.height);
        CHECKS.equal(what + ": time", keeper.tip(9), (int) node.time);
    }

    private static Node grown(Node from, int blocks, int mark) {
        Node node = from;
        for (int i = 0; i < blocks; i++) {
            node = node.next().mark(mark).mined();
        }
        return node;
    }

    private static Node at(Node node, int height) {
        Node found = node;
        while (found.height > height) {
            found = found.before;
        }
        return found;
    }

    /** Submits all of a branch from a height on: the last answer. */
    private static int submit(CoinKeeper keeper, Node tip, int from) {
        int answer = -1;
        for (int height = from; height <= tip.height; height++) {
            answer = at(tip, height).to(keeper);
        }
        return answer;
    }

    private static long digest(Node tip) {
        CoinKeeper keeper = new CoinKeeper();
        submit(keeper, tip, 1);
        tipIs("alone", keeper, tip);
        return keeper.digest();
    }

    private static void firstStays() {
        CoinKeeper keeper = new CoinKeeper();
        Node one = grown(Node.genesis(), 1, 1);
        Node other = grown(Node.genesis(), 1, 2);
        CHECKS.equal("first", one.to(keeper), 0);
        CHECKS.equal("as much work", other.to(keeper), 1);
        tipIs("the first stays", keeper, one);
        CHECKS.equal("work", keeper.count(4), 4);
        CHECKS.equal("more work", grown(other, 1, 2).to(keeper), 0);
        tipIs("the other", keeper, grown(other, 1, 2));
        CHECKS.equal("more work", keeper.count(4), 6);
        CHECKS.equal("unspent", keeper.count(2), 2);
        CHECKS.equal("taken", keeper.count(0), 3);
        CHECKS.equal("bad", keeper.count(1), 0);
    }

    private static void thereAndBack() {
        CoinKeeper keeper = new CoinKeeper();
        Node trunk = grown(Node.genesis(), 2, 0);
        Node left = grown(trunk, 3, 1);
        Node right = grown(trunk, 4, 2);
        Node longLeft = grown(left, 2, 1);
        CHECKS.equal("left", submit(keeper, left, 1), 0);
        CHECKS.equal("right, not yet", submit(keeper, at(right, 5), 3), 1);
        tipIs("left", keeper, left);
        CHECKS.equal("digest of left", keeper.digest(), digest(left));
        CHECKS.equal("right", right.to(keeper), 0);
        tipIs("right", keeper, right);
        CHECKS.equal("digest of right", keeper.digest(), digest(right));
        CHECKS.equal("left, not yet", at(longLeft, 6).to(keeper), 1);
        CHECKS.equal("left again", longLeft.to(keeper), 0);
        tipIs("long left", keeper, longLeft);
        CHECKS.equal("digest of long left", keeper.digest(), digest(longLeft));
        CHECKS.equal("from the genesis", submit(keeper, grown(Node.genesis(), 8, 3), 1), 0);
        CHECKS.equal("digest of all new", keeper.digest(), digest(grown(Node.genesis(), 8, 3)));
        CHECKS.equal("unspent of all new", keeper.count(2), 8);
    }

    /** What one branch spends is unspent on the other, and what it made is not there. */
    private static void spentAgain() {
        CoinKeeper keeper = new CoinKeeper();
        Node trunk = grown(Node.genesis(), 6, 0);
        CHECKS.equal("trunk", submit(keeper, trunk, 1), 0);
        Tx coin = at(trunk, 1).coinbase;
        Tx spends = new Tx().in(coin, 0).out(11).out(12);
        Tx chained = new Tx().in(spends, 1).out(5);
        Node left = trunk.next().mark(1).tx(spends).tx(chained).mined();
        CHECKS.equal("left", left.to(keeper), 0);
        Bytes.row(keeper, coin.id());
        CHECKS.thrown("spent", java.util.NoSuchElementException.class, () -> keeper.unspent(0));
        Node right = trunk.next().mark(2).mined();
        CHECKS.equal("right", right.to(keeper), 1);
        Node further = right.next().tx(new Tx().in(coin, 0).out(99)).mined();
        CHECKS.equal("spent there, too", further.to(keeper), 0);
        Bytes.row(keeper, spends.id());
        CHECKS.thrown("made on left alone", java.util.NoSuchElementException.class, () -> keeper.unspent(0));
        Bytes.row(keeper, chained.id());
        CHECKS.thrown("chained on left alone", java.util.NoSuchElementException.class, () -> keeper.unspent(0));
        CHECKS.equal("spends what left made", further.next().tx(new Tx().in(spends, 0).out(1)).mined().to(keeper), 10);
        Node back = left.next().tx(new Tx().in(spends, 0).out(1)).mined();
        CHECKS.equal("left further", back.to(keeper), 1);
        Node far = back.next().mined();
        CHECKS.equal("left again", far.to(keeper), 0);
        Bytes.row(keeper, chained.id());
        CHECKS.equal("chained is there", keeper.unspent(0), 5);
        Bytes.row(keeper, spends.id());
        CHECKS.thrown("spent behind", java.util.NoSuchElementException.class, () -> keeper.unspent(0));
        CHECKS.equal("unspent", keeper.count(2), 10);
        CHECKS.equal("bad", keeper.count(1), 1);
        CHECKS.equal("digest", keeper.digest(), digest(far));
    }

    private static Node rich(Node from, int mark) {
        Node.Draft draft = from.next().mark(mark);
        return draft.coinbase(draft.usualCoinbase(Node.subsidy(from.height + 1) + 1, Tx.ONE)).mined();
    }

    /** A bad block within a longer branch: its answer, all behind it bad, the old branch again. */
    private static void badAtItsPlace() {
        CoinKeeper keeper = new CoinKeeper();
        Node trunk = grown(Node.genesis(), 1, 0);
        Node old = grown(trunk, 3, 1);
        CHECKS.equal("old", submit(keeper, old, 1), 0);
        long digest = keeper.digest();
        Node good = grown(trunk, 1, 2);
        Node bad = rich(good, 2);
        Node beside = bad.next().mark(7).mined();
        Node missing = bad.next().mark(2).tx(new Tx().in(Bytes.many(3, 32), 0).out(1)).mined();
        Node last = missing.next().mark(2).mined();
        CHECKS.equal("good", good.to(keeper), 1);
        CHECKS.equal("bad, not looked at", bad.to(keeper), 1);
        CHECKS.equal("beside, not looked at", beside.to(keeper), 1);
        CHECKS.equal("behind, not looked at", missing.to(keeper), 1);
        CHECKS.equal("none is bad yet", keeper.count(1), 0);
        CHECKS.equal("the first that is not valid", last.to(keeper), 14);
        CHECKS.equal("all behind it are bad", keeper.count(1), 4);
        CHECKS.equal("they were taken", keeper.count(0), 9);
        tipIs("the old branch", keeper, old);
        CHECKS.equal("its digest", keeper.digest(), digest);
        CHECKS.equal("on the last", last.next().mined().to(keeper), 4);
        CHECKS.equal("on the one beside", beside.next().mined().to(keeper), 4);
        CHECKS.equal("on the bad one", bad.next().mark(9).mined().to(keeper), 4);
        CHECKS.equal("the last again", last.to(keeper), 2);
        Node other = grown(good, 3, 5);
        CHECKS.equal("on the good one", submit(keeper, other, 3), 0);
        tipIs("a branch through the good one", keeper, other);
    }

    private static void badBehind() {
        CoinKeeper keeper = new CoinKeeper();
        Node trunk = grown(Node.genesis(), 2, 0);
        CHECKS.equal("trunk", submit(keeper, trunk, 1), 0);
        Node bad = trunk.next().tx(new Tx().in(at(trunk, 1).coinbase, 0).out(1)).mined();
        CHECKS.equal("bad at once", bad.to(keeper), 11);
        tipIs("trunk", keeper, trunk);
        CHECKS.equal("unspent", keeper.count(2), 2);
        CHECKS.equal("bad", keeper.count(1), 1);
        CHECKS.equal("another", grown(trunk, 1, 3).to(keeper), 0);
        CHECKS.equal("unspent then", keeper.count(2), 3);
    }

    /** At height 8 the bits part: a shorter branch of more work is the tip. */
    private static void workNotLength() {
        CoinKeeper keeper = new CoinKeeper();
        Node quick = Node.genesis();
        for (int i = 0; i < 7; i++) {
            quick = quick.next().time(1000001 + i).mark(1).mined();
        }
        Node slow = grown(Node.genesis(), 10, 2);
        CHECKS.equal("slow", submit(keeper, slow, 1), 0);
        CHECKS.equal("its work", keeper.count(4), 22);
        CHECKS.equal("quick, not yet", submit(keeper, quick, 1), 1);
        Node hard = quick.next().time(1000100).bits(0x201FFFFF).mark(1).mined();
        CHECKS.equal("work as much as three and a half", hard.to(keeper), 0);
        tipIs("a shorter branch", keeper, hard);
        CHECKS.equal("its work", keeper.count(4), 16 + 8);
        CHECKS.equal("wanted", keeper.tip(11), 0x201FFFFF);
        CHECKS.equal("slow, as much work", grown(slow, 1, 2).to(keeper), 1);
        CHECKS.equal("slow, more work", grown(slow, 2, 2).to(keeper), 0);
    }
}
