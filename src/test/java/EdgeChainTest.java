import java.util.ArrayList;
import java.util.Collections;
import java.util.List;
import java.util.NoSuchElementException;

/** Terms, 2 THE CHAIN, what is TAKEN and which BRANCH is THE BRANCH: each sentence that names an edge, and both its sides. */
public final class EdgeChainTest {
    private static final Checks CHECKS = new Checks("EdgeChainTest");
    private static final int LIMIT = 0x207FFFFF;

    public static void main(String[] args) {
        genesis();
        notThere();
        oneBefore();
        notBad();
        bitsKeep();
        bitsChange();
        shortestSpan();
        longestSpan();
        atMostLimit();
        divisionIsCut();
        notAboveTarget();
        medianOfFew();
        medianOfEleven();
        rootOfTwice();
        moreWork();
        undoneAndDone();
        badBehind();
        oldBranchAgain();
        timesWithoutSign();
        CHECKS.close();
    }

    private static Node grown(Node from, int blocks, int mark) {
        Node node = from;
        for (int i = 0; i < blocks; i++) {
            node = node.next().mark(mark).mined();
        }
        return node;
    }

    private static Node at(Node node, int height) {
        Node found = node;
        while (found.height > height) {
            found = found.before;
        }
        return found;
    }

    /** Submits all of a branch from a height on: the last answer. */
    private static int submit(CoinKeeper keeper, Node tip, int from) {
        int answer = -1;
        for (int height = from; height <= tip.height; height++) {
            answer = at(tip, height).to(keeper);
        }
        return answer;
    }

    private static Node rich(Node from, int mark) {
        Node.Draft draft = from.next().mark(mark);
        return draft.coinbase(draft.usualCoinbase(Node.subsidy(from.height + 1) + 1, Tx.ONE)).mined();
    }

    private static void tipIs(String what, CoinKeeper keeper, Node node) {
        for (int k = 0; k < 8; k++) {
            CHECKS.equal(what + ": tip " + k, keeper.tip(k), Bytes.word(node.id, k));
        }
        CHECKS.equal(what + ": height", keeper.tip(8), node.height);
    }

    /** "THE CHAIN begins with the GENESIS: HEIGHT 0, ID 32 times 0, time 1000000, bits 207FFFFF, no TXS." */
    private static void genesis() {
        CoinKeeper keeper = new CoinKeeper();
        for (int k = 0; k < 8; k++) {
            CHECKS.equal("ID " + k, keeper.tip(k), 0);
        }
        CHECKS.equal("HEIGHT", keeper.tip(8), 0);
        CHECKS.equal("time", keeper.tip(9), 1000000);
        CHECKS.equal("bits", keeper.tip(10), LIMIT);
        CHECKS.equal("no TXS", keeper.count(2), 0);
        Bytes.row(keeper, new byte[32]);
        CHECKS.thrown("no TXS", NoSuchElementException.class, () -> keeper.unspent(0));
        for (int place = 0; place < 32; place++) {
            byte[] other = new byte[32];
            other[place] = (byte) (1 << place % 8);
            CHECKS.equal("on another, byte " + place, Node.genesis().next().before(other).mined().to(keeper), 3);
        }
        CHECKS.equal("on 32 times 0", Node.genesis().next().mined().to(keeper), 0);
        CHECKS.equal("on it again", Node.genesis().next().mark(1).mined().to(keeper), 1);
    }

    /** "it is not there (2)": those that were refused are not there, BAD ones and those of other branches are. */
    private static void notThere() {
        CoinKeeper keeper = new CoinKeeper();
        Node one = grown(Node.genesis(), 1, 1);
        Node two = grown(one, 1, 1);
        Node early = Node.genesis().next().time(1000000).mined();
        for (int i = 0; i < 2; i++) {
            CHECKS.equal("its one before is not there", two.to(keeper), 3);
            CHECKS.equal("too early", early.to(keeper), 7);
        }
        CHECKS.equal("new", one.to(keeper), 0);
        CHECKS.equal("THE TIP", one.to(keeper), 2);
        CHECKS.equal("now its one before is there", two.to(keeper), 0);
        CHECKS.equal("one of THE BRANCH", one.to(keeper), 2);
        Node beside = grown(Node.genesis(), 1, 2);
        CHECKS.equal("of another branch", beside.to(keeper), 1);
        CHECKS.equal("of another branch, again", beside.to(keeper), 2);
        Node bad = rich(two, 3);
        CHECKS.equal("not VALID", bad.to(keeper), 14);
        CHECKS.equal("BAD", bad.to(keeper), 2);
        byte[] sameHeader = Bytes.join(java.util.Arrays.copyOf(one.bytes, 80), Bytes.of(0));
        CHECKS.equal("the same HEADER alone", Bytes.row(keeper, sameHeader).submit(), 2);
        CHECKS.equal("taken", keeper.count(0), 4);
    }

    /** "the one before is (3)": also one of another branch. */
    private static void oneBefore() {
        CoinKeeper keeper = new CoinKeeper();
        Node left = grown(Node.genesis(), 3, 1);
        Node right = grown(Node.genesis(), 2, 2);
        CHECKS.equal("left", submit(keeper, left, 1), 0);
        CHECKS.equal("two ahead", right.to(keeper), 3);
        CHECKS.equal("its one before", right.before.to(keeper), 1);
        CHECKS.equal("on another branch", right.to(keeper), 1);
        CHECKS.equal("within THE BRANCH", at(left, 1).next().mark(5).mined().to(keeper), 1);
    }

    /** "that is not BAD (4)" */
    private static void notBad() {
        CoinKeeper keeper = new CoinKeeper();
        Node one = grown(Node.genesis(), 1, 1);
        Node bad = rich(one, 1);
        CHECKS.equal("good", one.to(keeper), 0);
        CHECKS.equal("bad", bad.to(keeper), 14);
        CHECKS.equal("on the BAD one", bad.next().mined().to(keeper), 4);
        CHECKS.equal("on the one before it", one.next().mined().to(keeper), 0);
        CHECKS.equal("count", keeper.count(1), 1);
    }

    /** "Bits wanted: those of the one before; if HEIGHT is a multiple of 8 ..": of 7 and 9, of 15 and 17 they stay. */
    private static void bitsKeep() {
        CoinKeeper keeper = new CoinKeeper();
        Node tip = Node.genesis();
        int[] due = {LIMIT, 0x201FFFFF, 0x2007FFFF};
        for (int height = 1; height <= 17; height++) {
            CHECKS.equal("wanted at " + height, keeper.tip(11), due[height / 8]);
            for (int bits : due) {
                if (bits != due[height / 8]) {
                    CHECKS.equal("others at " + height, tip.next().time(tip.time + 1).bits(bits).mined().to(keeper), 5);
                }
            }
            tip = tip.next().time(tip.time + 1).bits(due[height / 8]).mined();
            CHECKS.equal("height " + height, tip.to(keeper), 0);
        }
    }

    /** "T its time less that of the BLOCK at HEIGHT - 8": from 8 to 15, not from 7, not to 16. */
    private static void bitsChange() {
        CoinKeeper keeper = new CoinKeeper();
        Node tip = Node.genesis();
        long[] times = {0, 1, 2, 3, 4, 5, 6, 2000, 9000, 9001, 9002, 9003, 9004, 9005, 9006, 11500};
        int[] due = {LIMIT, wanted(LIMIT, 2000)};
        for (int height = 1; height <= 15; height++) {
            tip = tip.next().time(1000000 + times[height]).bits(due[height / 8]).mined();
            CHECKS.equal("height " + height, tip.to(keeper), 0);
        }
        CHECKS.equal("wanted at 16", keeper.tip(11), wanted(due[1], 2500));
        // A branch that parts at 14 has a T of its own.
        Node other = tip.before.next().time(1000000 + 13000).bits(due[1]).mark(1).mined();
        CHECKS.equal("beside", other.to(keeper), 1);
        CHECKS.equal("wanted on it", other.next().bits(wanted(due[1], 2500)).mined().to(keeper), 5);
        CHECKS.equal("its own", other.next().bits(wanted(due[1], 4000)).mined().to(keeper), 0);
    }

    private static int wanted(int bits, long took) {
        java.math.BigInteger target = Node.target(bits).multiply(java.math.BigInteger.valueOf(took)).divide(java.math.BigInteger.valueOf(4800));
        int bytes = (target.bitLength() + 7) / 8;
        int m = target.shiftRight(8 * (bytes - 3)).intValue();
        return m < 0x800000 ? bytes << 24 | m : bytes + 1 << 24 | m >> 8;
    }

    /** "at least 1200" */
    private static void shortestSpan() {
        long[] took = {7, 1199, 1200, 1201, 1202};
        int[] due = {0x201FFFFF, 0x201FFFFF, 0x201FFFFF, 0x202006D3, 0x20200DA7};
        for (int i = 0; i < took.length; i++) {
            Spans spans = Spans.begun().by(took[i]);
            CHECKS.equal("T " + took[i], spans.wanted(), due[i]);
            CHECKS.equal("taken, T " + took[i], spans.next(due[i]), 0);
        }
        // A time that goes back makes T less than 0.
        CoinKeeper keeper = new CoinKeeper();
        Node tip = Node.genesis();
        long[] times = {0, 10, 20, 30, 40, 50, 60, 4800, 9000, 70, 80, 90, 100, 110, 120, 130};
        for (int height = 1; height <= 15; height++) {
            tip = tip.next().time(1000000 + times[height]).mined();
            CHECKS.equal("back, height " + height, tip.to(keeper), 0);
        }
        CHECKS.equal("T below 0", keeper.tip(11), 0x201FFFFF);
    }

    /** "at most 19200" */
    private static void longestSpan() {
        Spans low = Spans.begun().by(1200).by(1200);
        CHECKS.equal("a sixteenth of LIMIT", low.wanted(), 0x2007FFFF);
        long[] took = {19198, 19199, 19200, 19201, 1000000};
        int[] due = {0x201FFF21, 0x201FFF8E, 0x201FFFFC, 0x201FFFFC, 0x201FFFFC};
        for (int i = 0; i < took.length; i++) {
            Spans spans = low.copied().by(took[i]);
            CHECKS.equal("as told: T " + took[i], wanted(0x2007FFFF, Math.min(19200, took[i])), due[i]);
            CHECKS.equal("T " + took[i], spans.wanted(), due[i]);
            CHECKS.equal("taken, T " + took[i], spans.next(due[i]), 0);
        }
    }

    /** "at most LIMIT" */
    private static void atMostLimit() {
        long[] took = {4799, 4800, 4801, 19200};
        int[] due = {0x207FF92B, LIMIT, LIMIT, LIMIT};
        for (int i = 0; i < took.length; i++) {
            Spans spans = Spans.begun().by(took[i]);
            CHECKS.equal("T " + took[i], spans.wanted(), due[i]);
            CHECKS.equal("taken, T " + took[i], spans.next(due[i]), 0);
        }
        // 201FFFFF: four times as much is just below LIMIT, 202006D3 just above.
        CHECKS.equal("four times a quarter", Spans.begun().by(1200).by(19200).wanted(), 0x207FFFFC);
        CHECKS.equal("four times a little more", Spans.begun().by(1201).by(19200).wanted(), LIMIT);
        CHECKS.equal("not quite four times that", Spans.begun().by(1201).by(19183).wanted(), wanted(0x202006D3, 19183));
    }

    /** "(T of seconds; products are exact, cut by the division)" */
    private static void divisionIsCut() {
        // 7FFFFF by 3 leaves a rest in its last byte, 2AAAAA.AA; twice a half has lost a bit.
        CHECKS.equal("by 3", Spans.begun().by(1600).wanted(), 0x202AAAAA);
        CHECKS.equal("by 2", Spans.begun().by(2400).wanted(), 0x203FFFFF);
        CHECKS.equal("by 2, times 2", Spans.begun().by(2400).by(9600).wanted(), 0x207FFFFE);
        CHECKS.equal("by 3, times 3", Spans.begun().by(1600).by(14400).wanted(), 0x207FFFFE);
    }

    /** "its ID is not above their TARGET (6)" */
    private static void notAboveTarget() {
        Spans spans = Spans.begun().by(2000);
        int bits = spans.wanted();
        CHECKS.equal("bits", bits, 0x20355554);
        for (int near = 0; near <= 2; near++) {
            Node above = spans.tip().next().bits(bits).above().near(near).mined();
            Node below = spans.tip().next().bits(bits).near(near).mined();
            CHECKS.equal("above by byte " + near, above.to(spans.copied().keeper), 6);
            CHECKS.equal("below by byte " + near, below.to(spans.copied().keeper), 0);
        }
        // IDS that were found by trying some billion: they begin with 7FFFFF01 and with 7FFFFEFF, the TARGET is 7FFFFF00..
        Node above = Node.genesis().next().above().near(3).nonce(152247815).mined();
        Node below = Node.genesis().next().near(2).nonce(1082912852).mined();
        CHECKS.equal("bytes of the one above", Bytes.word(above.id, 7), 0x7FFFFF01);
        CHECKS.equal("bytes of the one below", Bytes.word(below.id, 7), 0x7FFFFEFF);
        CHECKS.equal("just above", above.to(new CoinKeeper()), 6);
        CHECKS.equal("just below", below.to(new CoinKeeper()), 0);
    }

    private static long median(Node last, int most) {
        List<Long> times = new ArrayList<>();
        for (Node node = last; node != null && times.size() < most; node = node.before) {
            times.add(node.time);
        }
        Collections.sort(times);
        return times.get(times.size() / 2);
    }

    /** "its time is above the MEDIAN of the 11 before it (fewer at first; of an even number the greater one in the middle) (7)" */
    private static void medianOfFew() {
        CoinKeeper keeper = new CoinKeeper();
        Node tip = Node.genesis();
        long[] offsets = {0, 5000, 7000, 5500, 9000, 6500, 20000, 6600, 30000, 8000, 31000};
        // The median of the first i, in the order above, read by hand.
        long[] due = {0, 5000, 5000, 5500, 5500, 6500, 6500, 6600, 6600, 7000};
        for (int height = 1; height <= 10; height++) {
            long middle = 1000000 + due[height - 1];
            CHECKS.equal("the median as told ahead of " + height, median(tip, 11), middle);
            CHECKS.equal("at the median, height " + height, tip.next().time(middle).mined().to(keeper), 7);
            CHECKS.equal("below it, height " + height, tip.next().time(middle - 1).mined().to(keeper), 7);
            Node above = tip.next().time(middle + 1).mark(1).mined();
            CHECKS.equal("above it, height " + height, above.to(keeper), 0);
            tip = tip.next().time(1000000 + offsets[height]).mined();
            CHECKS.equal("height " + height, tip.to(keeper), 1);
            // The other one stays the tip until the next height.
        }
    }

    /** The same for 11 and more: the twelfth before it is not looked at, the eleventh is. */
    private static void medianOfEleven() {
        CoinKeeper keeper = new CoinKeeper();
        Node tip = Node.genesis();
        int ofTen = 0;
        int ofTwelve = 0;
        for (int height = 1; height <= 23; height++) {
            long middle = median(tip, 11);
            if (height > 11) {
                CHECKS.equal("at the median, height " + height, tip.next().time(middle).mined().to(keeper), 7);
                CHECKS.equal("above it, height " + height, tip.next().time(middle + 1).mark(1).mined().to(keeper), 0);
            }
            ofTen += height > 11 && median(tip, 10) != middle ? 1 : 0;
            ofTwelve += height > 11 && median(tip, 12) != middle ? 1 : 0;
            long time = 1000000 + 2000 * height + (height % 4 == 2 ? 60000 : 0);
            tip = tip.next().time(time).mined();
            CHECKS.equal("height " + height, tip.to(keeper), height > 11 ? 1 : 0);
        }
        CHECKS.that("the median of 10 is another, now and then", ofTen > 3);
        CHECKS.that("the median of 12 is another, now and then", ofTwelve > 2);
    }

    /** "ROOT is THE ROOT of its TXS, and in no row two HASHES that are put together (but by being alone) are the same (8)" */
    private static void rootOfTwice() {
        Tx first = Node.genesis().next().usualCoinbase(5, Tx.ONE);
        Tx[] txs = new Tx[7];
        txs[0] = first;
        for (int i = 1; i < 7; i++) {
            txs[i] = new Tx().in(Bytes.many(i, 32), 0).out(1);
        }
        int[][] rows = {{0, 0}, {0, 1, 1}, {0, 1, 1, 1}, {0, 1, 2, 2}, {0, 1, 2}, {0, 1, 2, 1}, {0, 1, 0, 1}, {0, 1, 1, 0}, {0, 1, 2, 3, 4, 4},
            {0, 1, 2, 3, 4, 3}, {0, 1, 2, 3, 4, 5, 4, 5}, {0, 1, 2, 3, 4, 5, 5, 4}, {0, 1, 2, 3, 0, 1, 2, 3}, {0, 1, 2, 3, 4, 5, 6, 6},
            {0, 1, 2, 3, 4, 5, 6}, {0, 1, 1, 2, 3}, {0, 1, 2, 3, 2, 3}, {0, 1, 2, 3, 2, 4}};
        // 9: a coinbase twice, put together with others; 10: a TX twice, put together with others.
        int[] due = {8, 10, 8, 8, 10, 10, 8, 9, 8, 10, 8, 10, 8, 8, 10, 10, 10, 10};
        for (int i = 0; i < rows.length; i++) {
            Node.Draft draft = Node.genesis().next().coinbase(first);
            for (int j = 1; j < rows[i].length; j++) {
                draft.tx(txs[rows[i][j]]);
            }
            CHECKS.equal("TXS " + java.util.Arrays.toString(rows[i]), draft.mined().to(new CoinKeeper()), due[i]);
        }
    }

    /** "If a BLOCK that is TAKEN has more WORK behind it (all from the GENESIS, whose own counts, too, with it) than THE TIP" */
    private static void moreWork() {
        CoinKeeper keeper = new CoinKeeper();
        Node left = grown(Node.genesis(), 2, 1);
        Node right = grown(Node.genesis(), 3, 2);
        CHECKS.equal("left", submit(keeper, left, 1), 0);
        CHECKS.equal("less WORK", at(right, 1).to(keeper), 1);
        CHECKS.equal("as much WORK", at(right, 2).to(keeper), 1);
        tipIs("left", keeper, left);
        CHECKS.equal("more WORK", right.to(keeper), 0);
        tipIs("right", keeper, right);
        CHECKS.equal("WORK", keeper.count(4), 8);
        // A block of WORK 3: one more, the same, and one less than blocks of WORK 2 have.
        Spans quick = Spans.begun().by(2600);
        int bits = quick.wanted();
        CHECKS.equal("bits", bits, 0x20455554);
        Node eight = quick.tip().next().bits(bits).mined();
        Node nine = eight.next().bits(bits).mined();
        Node slow = grown(Node.genesis(), 11, 4);
        CHECKS.equal("slow, 8", submit(quick.keeper, at(slow, 8), 1), 0);
        CHECKS.equal("one more, by a harder block", eight.to(quick.keeper), 0);
        CHECKS.equal("WORK of it", quick.keeper.count(4), 19);
        CHECKS.equal("one more, by a further block", at(slow, 9).to(quick.keeper), 0);
        CHECKS.equal("WORK of that", quick.keeper.count(4), 20);
        CHECKS.equal("two more", nine.to(quick.keeper), 0);
        CHECKS.equal("the same", at(slow, 10).to(quick.keeper), 1);
        CHECKS.equal("WORK stays", quick.keeper.count(4), 22);
        tipIs("nine", quick.keeper, nine);
        CHECKS.equal("two more again", slow.to(quick.keeper), 0);
        tipIs("slow", quick.keeper, slow);
    }

    /** "those of the old one up to where they part are undone, those of the new one done": parting at each height. */
    private static void undoneAndDone() {
        Node old = grown(Node.genesis(), 6, 1);
        for (int parting = 0; parting <= 6; parting++) {
            CoinKeeper keeper = new CoinKeeper();
            CHECKS.equal("old", submit(keeper, old, 1), 0);
            Node fresh = grown(at(old, parting), 7 - parting, 2);
            CHECKS.equal("parting at " + parting, submit(keeper, fresh, parting + 1), 0);
            tipIs("parting at " + parting, keeper, fresh);
            CoinKeeper alone = new CoinKeeper();
            CHECKS.equal("alone", submit(alone, fresh, 1), 0);
            CHECKS.equal("unspent, as alone", keeper.digest(), alone.digest());
            CHECKS.equal("how many", keeper.count(2), 7);
            for (int height = 1; height <= 6; height++) {
                Bytes.row(keeper, at(old, height).coinbase.id());
                if (height <= parting) {
                    CHECKS.equal("old at " + height, keeper.unspent(0), Node.subsidy(height));
                } else {
                    CHECKS.thrown("old at " + height, NoSuchElementException.class, () -> keeper.unspent(0));
                }
            }
            Node back = grown(old, 2, 1);
            CHECKS.equal("not yet back", back.before.to(keeper), 1);
            CHECKS.equal("back", back.to(keeper), 0);
            CHECKS.equal("how many then", keeper.count(2), 8);
        }
    }

    /** "if one is not, it and all behind it (also on other branches, and later ones are refused by 4) are BAD" */
    private static void badBehind() {
        Node old = grown(Node.genesis(), 5, 1);
        for (int wrong = 1; wrong <= 6; wrong++) {
            CoinKeeper keeper = new CoinKeeper();
            CHECKS.equal("old", submit(keeper, old, 1), 0);
            Node branch = rich(grown(Node.genesis(), wrong - 1, 2), 2);
            Node bad = branch;
            branch = grown(branch, 6 - wrong, 2);
            for (int height = 1; height <= 5; height++) {
                CHECKS.equal("taken, not looked at", at(branch, height).to(keeper), 1);
            }
            Node aside = wrong < 6 ? bad.next().mark(8).mined() : null;
            if (aside != null) {
                CHECKS.equal("aside", aside.to(keeper), aside.height < 6 ? 1 : 14);
            }
            CHECKS.equal("none or all", keeper.count(1), wrong == 5 ? 2 : 0);
            CHECKS.equal("wrong at " + wrong, branch.to(keeper), wrong == 5 ? 4 : 14);
            CHECKS.equal("BAD", keeper.count(1), wrong == 5 ? 2 : wrong == 6 ? 1 : 8 - wrong);
            CHECKS.equal("TAKEN", keeper.count(0), wrong == 5 || wrong == 6 ? 11 : 12);
            tipIs("old", keeper, old);
            for (int height = 1; height <= 6; height++) {
                Node on = at(branch, height);
                int due = height < wrong ? height == 5 ? 0 : 1 : wrong == 5 && height == 6 ? 3 : 4;
                CHECKS.equal("on " + height + ", wrong at " + wrong, on.next().mark(9).mined().to(keeper), due);
            }
            if (aside != null) {
                CHECKS.equal("on the one aside", aside.next().mined().to(keeper), 4);
            }
        }
    }

    /** "and THE BRANCH is the old one again. BAD ones were TAKEN all the same." */
    private static void oldBranchAgain() {
        CoinKeeper keeper = new CoinKeeper();
        Node trunk = grown(Node.genesis(), 6, 0);
        Tx spends = new Tx().in(at(trunk, 1).coinbase, 0).out(3).out(4);
        Node old = trunk.next().tx(spends).mined();
        CHECKS.equal("trunk", submit(keeper, trunk, 1), 0);
        CHECKS.equal("old", old.to(keeper), 0);
        long digest = keeper.digest();
        Tx again = new Tx().in(at(trunk, 1).coinbase, 0).in(at(trunk, 2).coinbase, 0).out(5);
        Node good = trunk.next().mark(1).tx(again).mined();
        Node bad = good.next().tx(new Tx().in(again, 0).out(5)).tx(new Tx().in(again, 0).out(4)).mined();
        CHECKS.equal("good, as much WORK", good.to(keeper), 1);
        CHECKS.equal("what it spent is spent then", bad.to(keeper), 10);
        tipIs("old", keeper, old);
        CHECKS.equal("unspent", keeper.digest(), digest);
        CHECKS.equal("how many", keeper.count(2), 8);
        CHECKS.equal("values", keeper.count(3), 6 * Node.subsidy(1) + 7);
        CHECKS.equal("WORK", keeper.count(4), 16);
        CHECKS.equal("TAKEN", keeper.count(0), 9);
        CHECKS.equal("BAD", keeper.count(1), 1);
        Bytes.row(keeper, spends.id());
        CHECKS.equal("of the old one", keeper.unspent(1), 4);
        Bytes.row(keeper, again.id());
        CHECKS.thrown("of the other one", NoSuchElementException.class, () -> keeper.unspent(0));
        CHECKS.equal("the old one goes on", old.next().tx(new Tx().in(spends, 1).out(4)).mined().to(keeper), 0);
        CHECKS.equal("good, less WORK", good.next().mark(2).mined().to(keeper), 1);
        CHECKS.equal("good, more WORK", good.next().mark(2).mined().next().mined().to(keeper), 0);
    }

    /** "Times are numbers without sign." */
    private static void timesWithoutSign() {
        long high = 0x80000000L;
        CoinKeeper keeper = new CoinKeeper();
        Node tip = Node.genesis();
        long[] times = {0, high - 1, high, high + 1, high + 2, 0xFFFFFFFEL, 0xFFFFFFFFL, 0xFFFFFFFFL};
        long[] medians = {1000000, high - 1, high - 1, high, high, high + 1, high + 1, high + 2};
        for (int height = 1; height <= 7; height++) {
            CHECKS.equal("at the median " + height, tip.next().time(medians[height - 1]).mined().to(keeper), 7);
            CHECKS.equal("1 " + height, tip.next().time(1).mined().to(keeper), 7);
            tip = tip.next().time(times[height]).mined();
            CHECKS.equal("time " + times[height], tip.to(keeper), 0);
            CHECKS.equal("as it is told", keeper.tip(9), (int) times[height]);
        }
        CHECKS.equal("T is above 19200", keeper.tip(11), LIMIT);
        CHECKS.equal("at the median 8", tip.next().time(medians[7]).mined().to(keeper), 7);
        CHECKS.equal("above the median 8", tip.next().time(medians[7] + 1).mined().to(keeper), 0);
        // Across the sign: T is 1300.
        CoinKeeper across = new CoinKeeper();
        Node node = Node.genesis();
        for (int height = 1; height <= 7; height++) {
            node = node.next().time(height < 7 ? 1000000 + height : high).mined();
            CHECKS.equal("across, height " + height, node.to(across), 0);
        }
        long begin = high - 600;
        node = node.next().time(begin).mined();
        CHECKS.equal("across, height 8", node.to(across), 0);
        for (int height = 9; height <= 15; height++) {
            node = node.next().time(height < 15 ? begin + height : begin + 1300).mined();
            CHECKS.equal("across, height " + height, node.to(across), 0);
        }
        CHECKS.equal("T of 1300", across.tip(11), wanted(LIMIT, 1300));
        // The median can be the greatest time: then no time is above it.
        CoinKeeper full = new CoinKeeper();
        node = Node.genesis();
        for (int height = 1; height <= 3; height++) {
            long time = height == 1 ? 0xFFFFFFFEL : 0xFFFFFFFFL;
            node = node.next().time(time).mined();
            CHECKS.equal("full, height " + height, node.to(full), 0);
        }
        for (long time : new long[] {0xFFFFFFFFL, 0, 1, 0x7FFFFFFFL}) {
            CHECKS.equal("none is above", node.next().time(time).mined().to(full), 7);
        }
    }
}
