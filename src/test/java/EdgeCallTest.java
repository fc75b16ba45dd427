import java.util.NoSuchElementException;

/** Promises 1 to 11, the calls themselves: each sentence that names an edge, and both its sides. */
public final class EdgeCallTest {
    private static final Checks CHECKS = new Checks("EdgeCallTest");
    private static final Class<IllegalArgumentException> ARGUMENT = IllegalArgumentException.class;
    private static final Class<IllegalStateException> STATE = IllegalStateException.class;
    private static final int[] FAR = {Integer.MIN_VALUE, Integer.MIN_VALUE + 1, -65536, -256, 256, 65536, 1 << 30, Integer.MAX_VALUE};

    public static void main(String[] args) {
        newObject();
        throwsAndChangesNothing();
        firstExceptionFirst();
        feedHighestFirst();
        feedBeyond();
        endOfRow();
        submitEmpties();
        submitAnswers();
        scriptSplits();
        scriptLimits();
        scriptEmpties();
        hashWords();
        tipWords();
        tipOfOthers();
        unspentRow();
        unspentIndex();
        counts();
        digests();
        signedLimits();
        signedStays();
        CHECKS.close();
    }

    /** All that calls tell without THE ROW. */
    private static String told(CoinKeeper keeper) {
        StringBuilder text = new StringBuilder();
        for (int k = 0; k < 12; k++) {
            text.append(keeper.tip(k)).append(' ');
        }
        for (int what = 0; what < 6; what++) {
            text.append(keeper.count(what)).append(' ');
        }
        for (int k = 0; k < 8; k++) {
            text.append(keeper.hash(k)).append(' ');
        }
        return text.append(keeper.digest()).toString();
    }

    private static CoinKeeper grown(int blocks) {
        CoinKeeper keeper = new CoinKeeper();
        Node node = Node.genesis();
        for (int i = 0; i < blocks; i++) {
            node = node.next().mined();
            CHECKS.equal("grown", node.to(keeper), 0);
        }
        return keeper;
    }

    /** Promise 1: "THE GENESIS is THE TIP; nothing is unspent; THE ROW is empty." */
    private static void newObject() {
        CoinKeeper keeper = new CoinKeeper();
        CHECKS.equal("HEIGHT", keeper.tip(8), 0);
        CHECKS.equal("unspent", keeper.count(2), 0);
        CHECKS.equal("their values", keeper.count(3), 0);
        CHECKS.equal("digest", keeper.digest(), 0);
        CHECKS.equal("THE ROW", keeper.count(5), 0);
        CHECKS.equal("HASH of nothing", keeper.hash(0), Bytes.word(Bytes.hash(new byte[0]), 0));
        CHECKS.equal("end at 0", keeper.end(0), 0);
        CHECKS.that("two scripts of nothing", !keeper.script(0));
        CHECKS.equal("nothing is no BLOCK", keeper.submit(), 1);
        // Another object has nothing of it.
        CoinKeeper used = grown(3);
        CHECKS.equal("used", used.tip(8), 3);
        CHECKS.equal("new", told(new CoinKeeper()), told(keeper));
    }

    /** "a call that throws changes nothing, and THE ROW stays" */
    private static void throwsAndChangesNothing() {
        for (CoinKeeper keeper : new CoinKeeper[] {new CoinKeeper(), grown(4)}) {
            for (int length : new int[] {0, 1, 31, 33, 2001, 2981, 3000}) {
                byte[] row = Bytes.many(length, length);
                Bytes.row(keeper, row);
                String before = told(keeper);
                if (length > 2980) {
                    CHECKS.thrown("feed", STATE, () -> keeper.feed(1, 2, 3, 4, 5));
                }
                CHECKS.thrown("end above", ARGUMENT, () -> keeper.end(length + 1));
                CHECKS.thrown("end below", ARGUMENT, () -> keeper.end(-1));
                CHECKS.thrown("script above", ARGUMENT, () -> keeper.script(length + 1) ? 1 : 0);
                CHECKS.thrown("script below", ARGUMENT, () -> keeper.script(-1) ? 1 : 0);
                CHECKS.thrown("hash", ARGUMENT, () -> keeper.hash(8));
                CHECKS.thrown("tip", ARGUMENT, () -> keeper.tip(12));
                CHECKS.thrown("unspent", ARGUMENT, () -> keeper.unspent(0));
                CHECKS.thrown("count", ARGUMENT, () -> keeper.count(6));
                CHECKS.thrown("signed", ARGUMENT, () -> keeper.signed(101) ? 1 : 0);
                CHECKS.equal("all is as it was, row of " + length, told(keeper), before);
            }
            Bytes.row(keeper, Bytes.many(3, 32));
            String before = told(keeper);
            CHECKS.thrown("not unspent", NoSuchElementException.class, () -> keeper.unspent(0));
            CHECKS.equal("all is as it was, row of an ID", told(keeper), before);
        }
    }

    /** "Of two exceptions the one named first is thrown" */
    private static void firstExceptionFirst() {
        CoinKeeper keeper = Bytes.row(new CoinKeeper(), new byte[31]);
        CHECKS.thrown("a wrong row, and not unspent", ARGUMENT, () -> keeper.unspent(0));
        Bytes.row(keeper, new byte[32]);
        CHECKS.thrown("a right row, and not unspent", NoSuchElementException.class, () -> keeper.unspent(0));
    }

    /** Promise 2: "Twenty bytes come to THE ROW, the highest of a first: how many it has." */
    private static void feedHighestFirst() {
        CoinKeeper keeper = new CoinKeeper();
        CHECKS.equal("twenty", keeper.feed(0x01020304, 0x80FF7F00, -1, Integer.MIN_VALUE, Integer.MAX_VALUE), 20);
        byte[] due = Bytes.of(1, 2, 3, 4, 128, 255, 127, 0, 255, 255, 255, 255, 128, 0, 0, 0, 127, 255, 255, 255);
        for (int length = 20; length >= 0; length--) {
            keeper.end(length);
            CHECKS.equal("the first " + length, keeper.hash(0), Bytes.word(Bytes.hash(java.util.Arrays.copyOf(due, length)), 0));
        }
        for (int i = 1; i <= 5; i++) {
            CHECKS.equal("feed " + i, keeper.feed(0, 0, 0, 0, i), 20 * i);
        }
    }

    /** "IllegalStateException if they would be more than 3000." */
    private static void feedBeyond() {
        for (int length = 2975; length <= 3000; length++) {
            CoinKeeper keeper = Bytes.row(new CoinKeeper(), Bytes.many(9, length));
            if (length <= 2980) {
                CHECKS.equal("feed behind " + length, keeper.feed(1, 2, 3, 4, 5), length + 20);
            } else {
                CHECKS.thrown("feed behind " + length, STATE, () -> keeper.feed(1, 2, 3, 4, 5));
                CHECKS.equal("it stays", keeper.count(5), length);
            }
        }
        CoinKeeper full = Bytes.row(new CoinKeeper(), Bytes.many(9, 3000));
        CHECKS.thrown("full", STATE, () -> full.feed(1, 2, 3, 4, 5));
        full.end(0);
        CHECKS.equal("empty again", full.feed(1, 2, 3, 4, 5), 20);
    }

    /** Promise 3: "THE ROW has only its first n bytes: n. IllegalArgumentException if there are not so many, or n is below 0." */
    private static void endOfRow() {
        for (int length : new int[] {0, 1, 19, 20, 21, 2999, 3000}) {
            CoinKeeper keeper = Bytes.row(new CoinKeeper(), Bytes.many(5, length));
            CHECKS.thrown("one more than " + length, ARGUMENT, () -> keeper.end(length + 1));
            CHECKS.thrown("below 0", ARGUMENT, () -> keeper.end(-1));
            for (int far : FAR) {
                if (far < 0 || far > length) {
                    CHECKS.thrown("far off " + far, ARGUMENT, () -> keeper.end(far));
                }
            }
            CHECKS.equal("all of " + length, keeper.end(length), length);
            CHECKS.equal("it stays", keeper.count(5), length);
            if (length > 0) {
                CHECKS.equal("one less", keeper.end(length - 1), length - 1);
                CHECKS.equal("THE ROW has one less", keeper.count(5), length - 1);
                CHECKS.thrown("as many as before", ARGUMENT, () -> keeper.end(length));
            }
            CHECKS.equal("none", keeper.end(0), 0);
            CHECKS.equal("THE ROW is empty", keeper.count(5), 0);
        }
    }

    /** Promise 4: "THE ROW is a BLOCK, and empty then": whatever the answer is. */
    private static void submitEmpties() {
        CoinKeeper keeper = new CoinKeeper();
        Node one = Node.genesis().next().mined();
        Node.Draft rich = one.next();
        Node[] blocks = {one, one, one.next().before(Bytes.many(1, 32)).mined(), one.next().wrongBits(5).mined(), one.next().above().mined(),
            one.next().time(3).mined(), one.next().root(new byte[32]).mined(), one.next().empty().mined(),
            one.next().tx(new Tx().in(Bytes.many(1, 32), 0).out(1)).mined(), one.next().tx(new Tx().in(one.coinbase, 0).out(1)).mined(),
            rich.coinbase(rich.usualCoinbase(Node.subsidy(2) + 1, Tx.ONE)).mined(), Node.genesis().next().mark(1).mined()};
        int[] due = {0, 2, 3, 5, 6, 7, 8, 9, 10, 11, 14, 1};
        for (int i = 0; i < blocks.length; i++) {
            CHECKS.equal("answer " + i, blocks[i].to(keeper), due[i]);
            CHECKS.equal("THE ROW is empty", keeper.count(5), 0);
        }
        CHECKS.equal("not right", Bytes.row(keeper, Bytes.many(1, 3000)).submit(), 1);
        CHECKS.equal("THE ROW is empty", keeper.count(5), 0);
        CHECKS.equal("empty", keeper.submit(), 1);
        CHECKS.equal("taken", keeper.count(0), 5);
        CHECKS.equal("bad", keeper.count(1), 3);
    }

    /** "0 if it is THE TIP by that, 1 if it was TAKEN and is not, else why it was not .. or is not VALID" */
    private static void submitAnswers() {
        CoinKeeper keeper = grown(1);
        Node one = Node.genesis().next().mined();
        Node two = one.next().mined();
        Node beside = Node.genesis().next().mark(1).mined();
        CHECKS.equal("THE TIP", two.to(keeper), 0);
        CHECKS.equal("HEIGHT", keeper.tip(8), 2);
        CHECKS.equal("TAKEN, not THE TIP", beside.to(keeper), 1);
        CHECKS.equal("TAKEN", keeper.count(0), 3);
        CHECKS.equal("not TAKEN", beside.to(keeper), 2);
        CHECKS.equal("TAKEN still", keeper.count(0), 3);
        CHECKS.equal("not VALID", two.next().tx(new Tx().in(one.coinbase, 1).out(1)).mined().to(keeper), 10);
        CHECKS.equal("TAKEN all the same", keeper.count(0), 4);
        CHECKS.equal("HEIGHT stays", keeper.tip(8), 2);
    }

    /** Promise 5: "THE ROW .. is two scripts, the first of n bytes"; "n is below 0 or above what THE ROW has" */
    private static void scriptSplits() {
        // A push of two bytes, which fails where the first script ends ahead of them or between them.
        byte[] row = Bytes.of(81, 2, 81, 81);
        boolean[] due = {true, true, false, false, true};
        for (int n = 0; n <= 4; n++) {
            CHECKS.that("first of " + n, Bytes.row(new CoinKeeper(), row).script(n) == due[n]);
        }
        for (int length : new int[] {0, 1, 4, 1000}) {
            CoinKeeper keeper = Bytes.row(new CoinKeeper(), Bytes.many(97, length));
            CHECKS.thrown("-1 of " + length, ARGUMENT, () -> keeper.script(-1) ? 1 : 0);
            CHECKS.thrown("one above " + length, ARGUMENT, () -> keeper.script(length + 1) ? 1 : 0);
            for (int far : FAR) {
                if (far < 0 || far > length) {
                    CHECKS.thrown("far off " + far, ARGUMENT, () -> keeper.script(far) ? 1 : 0);
                }
            }
            CHECKS.equal("THE ROW stays", keeper.count(5), length);
            CHECKS.that("all of " + length, !keeper.script(length));
        }
    }

    /** "or a script has more than 1000 (THE ROW stays then)" */
    private static void scriptLimits() {
        int[][] sizes = {{1000, 0, 0}, {1001, 0, 1}, {0, 1000, 0}, {0, 1001, 1}, {1000, 1000, 0}, {1001, 999, 1}, {999, 1001, 1}, {1000, 1001, 1},
            {1001, 1000, 1}, {1001, 1001, 1}, {1500, 1500, 1}, {3000, 0, 1}, {0, 3000, 1}, {999, 999, 0}};
        for (int[] size : sizes) {
            // Pushes of four times 249 and one, or of the same within 1000 and less.
            byte[] row = Bytes.join(pushes(size[0]), pushes(size[1]));
            CoinKeeper keeper = Bytes.row(new CoinKeeper(), row);
            String what = size[0] + " and " + size[1];
            if (size[2] == 1) {
                CHECKS.thrown(what, ARGUMENT, () -> keeper.script(size[0]) ? 1 : 0);
                CHECKS.equal("THE ROW stays, " + what, keeper.count(5), row.length);
                CHECKS.equal("its bytes stay, " + what, keeper.hash(0), Bytes.word(Bytes.hash(row), 0));
            } else {
                CHECKS.that(what, keeper.script(size[0]));
                CHECKS.equal("THE ROW is empty, " + what, keeper.count(5), 0);
            }
        }
    }

    /** So many bytes of pushes. */
    private static byte[] pushes(int size) {
        byte[] all = new byte[0];
        while (all.length + 102 <= size) {
            all = Bytes.join(all, Bytes.of(76, 100), Bytes.many(1, 100));
        }
        return Bytes.join(all, Bytes.many(81, size - all.length));
    }

    /** "THE ROW, which is empty then": whether it is true, false, or fails. */
    private static void scriptEmpties() {
        CoinKeeper keeper = grown(2);
        String before = told(keeper);
        for (byte[] row : new byte[][] {Bytes.of(), Bytes.of(81), Bytes.of(0), Bytes.of(106), Bytes.of(75), Bytes.of(255, 255)}) {
            boolean due = row.length == 1 && row[0] == 81;
            CHECKS.that("script " + Bytes.text(row), Bytes.row(keeper, row).script(row.length) == due);
            CHECKS.equal("all else is as it was", told(keeper), before);
        }
        // Nothing is left on the stack for the next call.
        CHECKS.that("true", Bytes.row(keeper, Bytes.of(81, 81)).script(1));
        CHECKS.that("nothing", !Bytes.row(keeper, Bytes.of()).script(0));
        CHECKS.that("an IF is left open", !Bytes.row(keeper, Bytes.of(81, 99)).script(0));
        CHECKS.that("not for the next one", !Bytes.row(keeper, Bytes.of(104, 81)).script(0));
    }

    /** Promise 6: "Word k (0 to 7, four bytes, the first one lowest) of the HASH of THE ROW, which stays." */
    private static void hashWords() {
        // 55, 56, 63 and 64 bytes are edges of SHA-256.
        for (int length : new int[] {0, 1, 54, 55, 56, 57, 63, 64, 65, 118, 119, 120, 127, 128, 2999, 3000}) {
            byte[] row = Bytes.many(length + 3, length);
            CoinKeeper keeper = Bytes.row(new CoinKeeper(), row);
            for (int k = 0; k < 8; k++) {
                CHECKS.equal("word " + k + " of " + length, keeper.hash(k), Bytes.word(Bytes.hash(row), k));
            }
            CHECKS.thrown("word -1", ARGUMENT, () -> keeper.hash(-1));
            CHECKS.thrown("word 8", ARGUMENT, () -> keeper.hash(8));
            for (int far : FAR) {
                CHECKS.thrown("word " + far, ARGUMENT, () -> keeper.hash(far));
            }
            CHECKS.equal("THE ROW stays", keeper.count(5), length);
        }
    }

    /** Promise 7: "Word k of THE TIP's ID, 8: its HEIGHT, 9: its time, 10: its bits, 11: the bits that are wanted of the next one." */
    private static void tipWords() {
        CoinKeeper keeper = new CoinKeeper();
        Node node = Node.genesis();
        for (int height = 1; height <= 9; height++) {
            int wanted = height < 8 ? 0x207FFFFF : 0x201FFFFF;
            node = node.next().time(node.time + 1).bits(wanted).mined();
            CHECKS.equal("height " + height, node.to(keeper), 0);
            for (int k = 0; k < 8; k++) {
                CHECKS.equal("word " + k, keeper.tip(k), Bytes.word(node.id, k));
            }
            CHECKS.equal("HEIGHT", keeper.tip(8), height);
            CHECKS.equal("time", keeper.tip(9), (int) node.time);
            CHECKS.equal("bits", keeper.tip(10), wanted);
            CHECKS.equal("wanted", keeper.tip(11), height < 7 ? 0x207FFFFF : 0x201FFFFF);
        }
    }

    /** "IllegalArgumentException for others." */
    private static void tipOfOthers() {
        for (CoinKeeper keeper : new CoinKeeper[] {new CoinKeeper(), grown(2)}) {
            CHECKS.thrown("-1", ARGUMENT, () -> keeper.tip(-1));
            CHECKS.thrown("12", ARGUMENT, () -> keeper.tip(12));
            for (int far : FAR) {
                CHECKS.thrown("far off " + far, ARGUMENT, () -> keeper.tip(far));
            }
        }
    }

    /** Promise 8: "the TX whose ID is THE ROW (of 32 bytes, which stays)"; "IllegalArgumentException if THE ROW has not 32 bytes" */
    private static void unspentRow() {
        CoinKeeper keeper = grown(2);
        byte[] id = Node.genesis().next().mined().coinbase.id();
        for (int length : new int[] {0, 1, 20, 31, 32, 33, 40, 64, 3000}) {
            Bytes.row(keeper, java.util.Arrays.copyOf(id, length));
            if (length == 32) {
                CHECKS.equal("32 bytes", keeper.unspent(0), Node.subsidy(1));
                CHECKS.equal("again", keeper.unspent(0), Node.subsidy(1));
            } else {
                CHECKS.thrown(length + " bytes", ARGUMENT, () -> keeper.unspent(0));
            }
            CHECKS.equal("it stays", keeper.count(5), length);
        }
    }

    /** "NoSuchElementException if it is not unspent (i as 32 bits without sign)" */
    private static void unspentIndex() {
        CoinKeeper keeper = new CoinKeeper();
        Node.Draft draft = Node.genesis().next();
        Tx coinbase = draft.usualCoinbase(7, Tx.ONE);
        for (int i = 1; i < 260; i++) {
            coinbase.out(i + 7, Tx.NONE);
        }
        CHECKS.equal("260 OUTPUTS", draft.coinbase(coinbase).mined().to(keeper), 0);
        Bytes.row(keeper, coinbase.id());
        for (int i = 0; i < 260; i++) {
            CHECKS.equal("OUTPUT " + i, keeper.unspent(i), i + 7);
        }
        for (int i : new int[] {260, 261, -1, -260, 65536, 65537, 1 << 24, Integer.MIN_VALUE, Integer.MAX_VALUE}) {
            CHECKS.thrown("OUTPUT " + i, NoSuchElementException.class, () -> keeper.unspent(i));
        }
    }

    /** Promise 9: what 0 to 5; "IllegalArgumentException for others." */
    private static void counts() {
        CoinKeeper keeper = new CoinKeeper();
        long[] first = {0, 0, 0, 0, 2, 0};
        for (int what = 0; what < 6; what++) {
            CHECKS.equal("new, " + what, keeper.count(what), first[what]);
        }
        Node one = Node.genesis().next().mined();
        Node.Draft draft = one.next();
        Node rich = draft.coinbase(draft.usualCoinbase(Node.subsidy(2) + 1, Tx.ONE)).mined();
        CHECKS.equal("one", one.to(keeper), 0);
        CHECKS.equal("BAD", rich.to(keeper), 14);
        CHECKS.equal("beside", Node.genesis().next().mark(1).mined().to(keeper), 1);
        keeper.feed(1, 2, 3, 4, 5);
        keeper.end(13);
        long[] then = {3, 1, 1, Node.subsidy(1), 4, 13};
        for (int what = 0; what < 6; what++) {
            CHECKS.equal("then, " + what, keeper.count(what), then[what]);
        }
        CHECKS.thrown("-1", ARGUMENT, () -> keeper.count(-1));
        CHECKS.thrown("6", ARGUMENT, () -> keeper.count(6));
        for (int far : FAR) {
            CHECKS.thrown("far off " + far, ARGUMENT, () -> keeper.count(far));
        }
    }

    /** Promise 10: "w the first word of the ID as hash tells it (an int, with its sign) .. all mod 2^64" */
    private static void digests() {
        boolean below = false;
        boolean above = false;
        for (int mark = 0; mark < 12; mark++) {
            CoinKeeper keeper = new CoinKeeper();
            Node.Draft draft = Node.genesis().next().mark(mark);
            Tx coinbase = draft.usualCoinbase(mark == 0 ? 0 : 4000000000L + mark, Tx.ONE).out(mark);
            CHECKS.equal("taken", draft.coinbase(coinbase).mined().to(keeper), 0);
            int w = Bytes.row(keeper, coinbase.bytes()).hash(0);
            below |= w < 0;
            above |= w > 0;
            java.math.BigInteger sum = java.math.BigInteger.ZERO;
            long[] values = {mark == 0 ? 0 : 4000000000L + mark, mark};
            for (int i = 0; i < 2; i++) {
                java.math.BigInteger x = java.math.BigInteger.valueOf(w).multiply(java.math.BigInteger.valueOf(31))
                        .add(java.math.BigInteger.valueOf(i)).multiply(java.math.BigInteger.valueOf(31)).add(java.math.BigInteger.valueOf(values[i]));
                sum = sum.add(x.multiply(x)).add(x);
            }
            CHECKS.that("it goes beyond 2^64", sum.bitLength() > 64);
            CHECKS.equal("digest " + mark, keeper.digest(), sum.longValue());
        }
        CHECKS.that("words of both signs", below && above);
    }

    /** Promise 11: "IllegalArgumentException if n is not 0 to 100, or THE ROW is not 32, n, and at least one, at most 80 bytes." */
    private static void signedLimits() {
        CoinKeeper keeper = new CoinKeeper();
        for (int n : new int[] {0, 1, 32, 33, 34, 65, 99, 100}) {
            for (int sig : new int[] {-32, -1, 0, 1, 2, 79, 80, 81, 82, 200}) {
                int length = 32 + n + sig;
                Bytes.row(keeper, Bytes.many(2, length));
                if (sig >= 1 && sig <= 80) {
                    CHECKS.that("a key of " + n + ", a SIG of " + sig, !keeper.signed(n));
                } else {
                    CHECKS.thrown("a key of " + n + ", a SIG of " + sig, ARGUMENT, () -> keeper.signed(n) ? 1 : 0);
                }
                CHECKS.equal("THE ROW stays", keeper.count(5), length);
            }
        }
        for (int n : new int[] {-1, 101, -33, 102}) {
            for (int sig : new int[] {0, 1, 40, 80, 81}) {
                Bytes.row(keeper, Bytes.many(2, Math.max(0, 32 + n + sig)));
                CHECKS.thrown("a key of " + n, ARGUMENT, () -> keeper.signed(n) ? 1 : 0);
            }
        }
        for (int far : FAR) {
            Bytes.row(keeper, Bytes.many(2, 3000));
            CHECKS.thrown("a key of " + far, ARGUMENT, () -> keeper.signed(far) ? 1 : 0);
        }
        CHECKS.thrown("nothing", ARGUMENT, () -> new CoinKeeper().signed(0) ? 1 : 0);
    }

    /** "Whether the SIG .. is one of that HASH by that key ..; THE ROW stays." */
    private static void signedStays() {
        CoinKeeper keeper = new CoinKeeper();
        Signer signer = new Signer(3);
        byte[] message = Bytes.sha(Bytes.of(4));
        byte[] row = Bytes.join(message, signer.shortKey(), signer.sig(message));
        Bytes.row(keeper, row);
        String before = told(keeper);
        CHECKS.that("signed", keeper.signed(33));
        CHECKS.that("signed again", keeper.signed(33));
        CHECKS.that("a key of 32", !keeper.signed(32));
        CHECKS.that("a key of 34", !keeper.signed(34));
        CHECKS.equal("all is as it was", told(keeper), before);
    }
}
