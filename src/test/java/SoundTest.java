/** Terms, 2 THE CHAIN, what is sound (else 9): each sentence that names an edge, and both its sides. */
public final class SoundTest {
    private static final Checks CHECKS = new Checks("SoundTest");
    private static final long MOST = 2100000000000000L;
    private static final byte[] OTHER = Bytes.many(7, 32);

    public static void main(String[] args) {
        parts();
        values();
        inputs();
        coinbases();
        heights();
        scripts();
        sigs();
        locks();
        CHECKS.close();
    }

    private static Node.Draft draft() {
        return Node.genesis().next();
    }

    /** The answer for a block on the genesis: a TX that spends what is not there is sound and answered by 10. */
    private static int withTx(Tx tx) {
        return draft().tx(tx).mined().to(new CoinKeeper());
    }

    private static int withCoinbase(byte[] script) {
        Tx tx = new Tx().in(new byte[32], Tx.LAST, script, 0).out(1);
        return draft().coinbase(tx).mined().to(new CoinKeeper());
    }

    /** "there are TXS, INPUTS, OUTPUTS" */
    private static void parts() {
        CHECKS.equal("sound", withTx(new Tx().in(OTHER, 0).out(1)), 10);
        CHECKS.equal("no INPUTS", withTx(new Tx().out(1)), 9);
        CHECKS.equal("no OUTPUTS", withTx(new Tx().in(OTHER, 0)), 9);
        CHECKS.equal("nothing", withTx(new Tx()), 9);
        CHECKS.equal("a coinbase without OUTPUTS", draft().coinbase(new Tx().in(new byte[32], Tx.LAST, Bytes.of(81, 0), 0))
                .mined().to(new CoinKeeper()), 9);
        CHECKS.equal("a coinbase without INPUTS", draft().coinbase(new Tx().out(1)).mined().to(new CoinKeeper()), 9);
        CHECKS.equal("no TXS", draft().empty().mined().to(new CoinKeeper()), 9);
    }

    /** "each value, and the sum of a TX's, is 0 to 2100000000000000" */
    private static void values() {
        CHECKS.equal("the most", withTx(new Tx().in(OTHER, 0).out(MOST)), 10);
        CHECKS.equal("one more", withTx(new Tx().in(OTHER, 0).out(MOST + 1)), 9);
        CHECKS.equal("none", withTx(new Tx().in(OTHER, 0).out(0)), 10);
        CHECKS.equal("below 0", withTx(new Tx().in(OTHER, 0).out(-1)), 9);
        CHECKS.equal("the lowest", withTx(new Tx().in(OTHER, 0).out(Long.MIN_VALUE)), 9);
        CHECKS.equal("the most in two", withTx(new Tx().in(OTHER, 0).out(MOST - 1).out(1)), 10);
        CHECKS.equal("more in two", withTx(new Tx().in(OTHER, 0).out(MOST).out(1)), 9);
        CHECKS.equal("more in many", withTx(new Tx().in(OTHER, 0).out(MOST).out(MOST).out(MOST).out(MOST)), 9);
        CHECKS.equal("the greatest", withTx(new Tx().in(OTHER, 0).out(Long.MAX_VALUE)), 9);
        CHECKS.equal("the greatest two", withTx(new Tx().in(OTHER, 0).out(Long.MAX_VALUE).out(Long.MAX_VALUE)), 9);
        CHECKS.equal("one below 0 behind one above", withTx(new Tx().in(OTHER, 0).out(MOST).out(-1)), 9);
        CHECKS.equal("the most, and none", withTx(new Tx().in(OTHER, 0).out(0).out(MOST).out(0)), 10);
        CHECKS.equal("the most in each of two TXS", draft().tx(new Tx().in(OTHER, 0).out(MOST)).tx(new Tx().in(OTHER, 1).out(MOST))
                .mined().to(new CoinKeeper()), 10);
        CHECKS.equal("a coinbase with the most in two", draft().coinbase(draft().usualCoinbase(MOST - 1, Tx.ONE).out(1)).mined().to(new CoinKeeper()), 14);
        CHECKS.equal("a coinbase with more in two", draft().coinbase(draft().usualCoinbase(MOST, Tx.ONE).out(1)).mined().to(new CoinKeeper()), 9);
        CHECKS.equal("a coinbase with none", draft().coinbase(draft().usualCoinbase(0, Tx.ONE)).mined().to(new CoinKeeper()), 0);
        CHECKS.equal("a coinbase below 0", draft().coinbase(draft().usualCoinbase(-1, Tx.ONE)).mined().to(new CoinKeeper()), 9);
        CHECKS.equal("a coinbase with more", draft().coinbase(draft().usualCoinbase(MOST + 1, Tx.ONE)).mined().to(new CoinKeeper()), 9);
        CHECKS.equal("a coinbase with the most", draft().coinbase(draft().usualCoinbase(MOST, Tx.ONE)).mined().to(new CoinKeeper()), 14);
    }

    /** "no INPUT of a TX twice"; "of the first TX alone .. the one INPUT is that with HASH 0 and index 4294967295" */
    private static void inputs() {
        byte[] zeros = new byte[32];
        CHECKS.equal("an INPUT twice", withTx(new Tx().in(OTHER, 3).in(OTHER, 4).in(OTHER, 3).out(1)), 9);
        CHECKS.equal("an INPUT twice, with two scripts", withTx(new Tx().in(OTHER, 3).in(OTHER, 3, Bytes.of(81, 81), 5).out(1)), 9);
        CHECKS.equal("two INPUTS of a TX", withTx(new Tx().in(OTHER, 3).in(OTHER, 4).out(1)), 10);
        CHECKS.equal("an INPUT twice, but of two TXS", draft().tx(new Tx().in(OTHER, 3).out(1)).tx(new Tx().in(OTHER, 3).out(2))
                .mined().to(new CoinKeeper()), 10);
        CHECKS.equal("a coinbase's INPUT", withTx(new Tx().in(zeros, Tx.LAST).out(1)), 9);
        CHECKS.equal("a coinbase's INPUT with another", withTx(new Tx().in(OTHER, 0).in(zeros, Tx.LAST).out(1)), 9);
        CHECKS.equal("HASH 0 and another index", withTx(new Tx().in(zeros, 0).out(1)), 10);
        CHECKS.equal("HASH 0 and nearly that index", withTx(new Tx().in(zeros, Tx.LAST - 1).out(1)), 10);
        CHECKS.equal("that index and another HASH", withTx(new Tx().in(OTHER, Tx.LAST).out(1)), 10);
        CHECKS.equal("two INPUTS of one index", withTx(new Tx().in(OTHER, 3).in(Bytes.many(8, 32), 3).out(1)), 10);
        Tx many = new Tx().out(1);
        for (int i = 0; i < 60; i++) {
            many.in(OTHER, i);
        }
        CHECKS.equal("60 INPUTS", withTx(many), 10);
        CHECKS.equal("60 INPUTS and the first again", withTx(many.in(OTHER, 0)), 9);
        byte[] last = OTHER.clone();
        last[31] ^= 1;
        CHECKS.equal("HASHES that have another last byte", withTx(new Tx().in(OTHER, 3).in(last, 3).out(1)), 10);
        CHECKS.equal("indices that have another highest byte", withTx(new Tx().in(OTHER, 3).in(OTHER, 3 + (1L << 31)).out(1)), 10);
        byte[] nearly = new byte[32];
        nearly[31] = 1;
        CHECKS.equal("nearly HASH 0", withTx(new Tx().in(nearly, Tx.LAST).out(1)), 10);
    }

    /** "of it, the one INPUT is that with HASH 0 and index 4294967295 (the COINBASE), its script 2 to 100 bytes" */
    private static void coinbases() {
        byte[] zeros = new byte[32];
        CHECKS.equal("a second coinbase", withTx(draft().usualCoinbase(1, Tx.ONE)), 9);
        CHECKS.equal("no coinbase", draft().coinbase(new Tx().in(OTHER, 0, Bytes.of(81, 0), 0).out(1)).mined().to(new CoinKeeper()), 9);
        CHECKS.equal("a coinbase of another index", draft().coinbase(new Tx().in(zeros, 0, Bytes.of(81, 0), 0).out(1))
                .mined().to(new CoinKeeper()), 9);
        CHECKS.equal("a coinbase of nearly that index", draft().coinbase(new Tx().in(zeros, Tx.LAST - 1, Bytes.of(81, 0), 0).out(1))
                .mined().to(new CoinKeeper()), 9);
        for (int place = 0; place < 32; place++) {
            byte[] other = new byte[32];
            other[place] = (byte) 128;
            CHECKS.equal("a coinbase of another HASH at " + place, draft().coinbase(new Tx().in(other, Tx.LAST, Bytes.of(81, 0), 0).out(1))
                    .mined().to(new CoinKeeper()), 9);
        }
        CHECKS.equal("a coinbase of two INPUTS", draft().coinbase(new Tx().in(zeros, Tx.LAST, Bytes.of(81, 0), 0).in(OTHER, 0).out(1))
                .mined().to(new CoinKeeper()), 9);
        CHECKS.equal("a coinbase of its INPUT twice", draft().coinbase(new Tx().in(zeros, Tx.LAST, Bytes.of(81, 0), 0)
                .in(zeros, Tx.LAST, Bytes.of(81, 0), 0).out(1)).mined().to(new CoinKeeper()), 9);
        CHECKS.equal("a script of none", withCoinbase(new byte[0]), 9);
        CHECKS.equal("a script of 1", withCoinbase(Bytes.of(81)), 9);
        CHECKS.equal("a script of 2", withCoinbase(Bytes.of(81, 0)), 0);
        CHECKS.equal("a script of 100", withCoinbase(Bytes.join(Bytes.of(81), Bytes.many(97, 99))), 0);
        CHECKS.equal("a script of 101", withCoinbase(Bytes.join(Bytes.of(81), Bytes.many(97, 100))), 9);
        CHECKS.equal("another height", withCoinbase(Bytes.of(82, 81)), 9);
        CHECKS.equal("height 1 by its byte", withCoinbase(Bytes.of(1, 1)), 9);
        CHECKS.equal("a script that would fail", withCoinbase(Bytes.of(81, 106)), 0);
        CHECKS.equal("a script that goes beyond", withCoinbase(Bytes.of(81, 75)), 0);
    }

    /** "first the HEIGHT pushed (1 to 16 by 81 to 96, others by their bytes as numbers)"; LimitTest has 127 and 128. */
    private static void heights() {
        CoinKeeper keeper = new CoinKeeper();
        Node node = Node.genesis();
        for (int height = 1; height <= 20; height++) {
            if (height == 16 || height == 17) {
                byte[] wrong = height == 16 ? Bytes.of(1, 16, 0) : Bytes.of(97, 0, 0);
                Tx tx = new Tx().in(new byte[32], Tx.LAST, wrong, 0).out(1);
                CHECKS.equal("height " + height + " in the other way", node.next().coinbase(tx).mined().to(keeper), 9);
            }
            byte[] early = Node.heightScript(height == 1 ? 2 : height - 1);
            byte[] late = Node.heightScript(height + 1);
            for (byte[] wrong : new byte[][] {early, late, Bytes.of(0, 0, 0), Bytes.of(79, 0, 0), Bytes.of(76, 1, height), Bytes.of(2, height, 0)}) {
                Tx tx = new Tx().in(new byte[32], Tx.LAST, wrong, 0).out(1);
                CHECKS.equal("height " + height + " by " + Bytes.text(wrong), node.next().coinbase(tx).mined().to(keeper), 9);
            }
            if (height == 18) {
                Tx tx = new Tx().in(new byte[32], Tx.LAST, Bytes.of(2, 18, 0), 0).out(1);
                CHECKS.equal("18 in two bytes", node.next().coinbase(tx).mined().to(keeper), 9);
                tx = new Tx().in(new byte[32], Tx.LAST, Bytes.of(1, 17), 0).out(1);
                CHECKS.equal("17 for 18", node.next().coinbase(tx).mined().to(keeper), 9);
                tx = new Tx().in(new byte[32], Tx.LAST, Bytes.of(1, 18), Tx.LAST).out(1);
                CHECKS.equal("18 in 2 bytes of script", node.next().mark(5).coinbase(tx).mined().to(keeper), 0);
            }
            node = node.next().mined();
            CHECKS.equal("height " + height, node.to(keeper), height == 18 ? 1 : 0);
        }
    }

    /** "no script has more than 1000 bytes" */
    private static void scripts() {
        CHECKS.equal("an OUTPUT's of 1000", withTx(new Tx().in(OTHER, 0).out(1, Bytes.many(97, 1000))), 10);
        CHECKS.equal("an OUTPUT's of 1001", withTx(new Tx().in(OTHER, 0).out(1, Bytes.many(97, 1001))), 9);
        CHECKS.equal("an INPUT's of 1000", withTx(new Tx().in(OTHER, 0, Bytes.many(97, 1000), 0).out(1)), 10);
        CHECKS.equal("an INPUT's of 1001", withTx(new Tx().in(OTHER, 0, Bytes.many(97, 1001), 0).out(1)), 9);
        CHECKS.equal("a coinbase's OUTPUT's of 1000", draft().coinbase(draft().usualCoinbase(1, Bytes.many(97, 1000)))
                .mined().to(new CoinKeeper()), 0);
        CHECKS.equal("the last OUTPUT's of 1001", withTx(new Tx().in(OTHER, 0).out(1).out(1, Bytes.many(97, 1001))), 9);
        CHECKS.equal("the last INPUT's of 1001", withTx(new Tx().in(OTHER, 0).in(OTHER, 1, Bytes.many(97, 1001), 0).out(1)), 9);
        CHECKS.equal("two of 1000", withTx(new Tx().in(OTHER, 0, Bytes.many(97, 1000), 0).out(1, Bytes.many(97, 1000))), 10);
        CHECKS.equal("a coinbase's OUTPUT's of 1001", draft().coinbase(draft().usualCoinbase(1, Bytes.many(97, 1001)))
                .mined().to(new CoinKeeper()), 9);
    }

    private static int withOut(byte[] script) {
        return draft().coinbase(draft().usualCoinbase(1, script)).mined().to(new CoinKeeper());
    }

    /** "all scripts .. count at most 40 SIGS (CHECKSIG and its VERIFY 1, CHECKMULTISIG and its 20; from the first push that goes beyond on nothing)" */
    private static void sigs() {
        CHECKS.equal("40 CHECKSIG", withOut(Bytes.many(172, 40)), 0);
        CHECKS.equal("41 CHECKSIG", withOut(Bytes.many(172, 41)), 9);
        CHECKS.equal("41 CHECKSIGVERIFY", withOut(Bytes.many(173, 41)), 9);
        CHECKS.equal("2 CHECKMULTISIG", withOut(Bytes.of(81, 174, 81, 175)), 0);
        CHECKS.equal("3 CHECKMULTISIG", withOut(Bytes.of(81, 174, 81, 175, 174)), 9);
        CHECKS.equal("2 CHECKMULTISIG and one", withOut(Bytes.of(174, 175, 172)), 9);
        CHECKS.equal("other ops", withOut(Bytes.join(Bytes.many(171, 50), Bytes.many(176, 50))), 0);
        CHECKS.equal("pushed", withOut(Bytes.join(Bytes.of(60), Bytes.many(172, 100))), 0);
        CHECKS.equal("pushed, and 41", withOut(Bytes.join(Bytes.of(60), Bytes.many(172, 101))), 9);
        CHECKS.equal("pushed by 76", withOut(Bytes.join(Bytes.of(76, 200), Bytes.many(172, 240))), 0);
        CHECKS.equal("pushed by 76, and 41", withOut(Bytes.join(Bytes.of(76, 200), Bytes.many(172, 241))), 9);
        CHECKS.equal("a push beyond", withOut(Bytes.join(Bytes.of(75), Bytes.many(172, 74))), 0);
        CHECKS.equal("behind 41 a push beyond", withOut(Bytes.join(Bytes.many(172, 41), Bytes.of(1))), 9);
        CHECKS.equal("behind 40 a 76 alone", withOut(Bytes.join(Bytes.many(172, 40), Bytes.of(76))), 0);
        CHECKS.equal("a 76 beyond", withOut(Bytes.join(Bytes.of(76, 255), Bytes.many(172, 254))), 0);
        CHECKS.equal("77 is no push", withOut(Bytes.join(Bytes.of(77, 80), Bytes.many(172, 41))), 9);
        CHECKS.equal("78 is no push", withOut(Bytes.join(Bytes.of(78, 80), Bytes.many(172, 41))), 9);
        byte[] forty = Bytes.many(172, 40);
        CHECKS.equal("40 CHECKSIGVERIFY", withOut(Bytes.many(173, 40)), 0);
        CHECKS.equal("20 of each", withOut(Bytes.join(Bytes.many(172, 20), Bytes.many(173, 20))), 0);
        CHECKS.equal("20 of each and one", withOut(Bytes.join(Bytes.many(172, 20), Bytes.many(173, 21))), 9);
        CHECKS.equal("CHECKMULTISIG and 20", withOut(Bytes.join(Bytes.of(174), Bytes.many(172, 20))), 0);
        CHECKS.equal("CHECKMULTISIG and 21", withOut(Bytes.join(Bytes.of(174), Bytes.many(172, 21))), 9);
        CHECKS.equal("CHECKMULTISIGVERIFY and 20", withOut(Bytes.join(Bytes.of(175), Bytes.many(173, 20))), 0);
        CHECKS.equal("CHECKMULTISIGVERIFY and 21", withOut(Bytes.join(Bytes.of(175), Bytes.many(173, 21))), 9);
        // A number ahead of it changes nothing: it counts 20 of any.
        CHECKS.equal("two of 1 key and one", withOut(Bytes.of(81, 174, 81, 174, 172)), 9);
        for (int push = 1; push <= 75; push++) {
            byte[] pushed = Bytes.join(Bytes.of(push), Bytes.many(172, push));
            CHECKS.equal("a push of " + push + " ahead of 40", withOut(Bytes.join(pushed, forty)), 0);
            CHECKS.equal("a push of " + push + " ahead of 41", withOut(Bytes.join(pushed, forty, Bytes.of(173))), 9);
            CHECKS.equal("40 and a push of " + push, withOut(Bytes.join(forty, pushed)), 0);
            CHECKS.equal("40, a push of " + push + " and one", withOut(Bytes.join(forty, pushed, Bytes.of(172))), 9);
            CHECKS.equal("40 and a push beyond by one", withOut(Bytes.join(forty, Bytes.of(push), Bytes.many(172, push - 1))), 0);
        }
        for (int push : new int[] {0, 1, 75, 76, 128, 255}) {
            byte[] pushed = Bytes.join(Bytes.of(76, push), Bytes.many(172, push));
            CHECKS.equal("76 and " + push + " ahead of 40", withOut(Bytes.join(pushed, forty)), 0);
            CHECKS.equal("76 and " + push + " ahead of 41", withOut(Bytes.join(pushed, forty, Bytes.of(172))), 9);
            CHECKS.equal("40 and 76 and " + push, withOut(Bytes.join(forty, pushed)), 0);
            CHECKS.equal("40, 76 and " + push + ", and one", withOut(Bytes.join(forty, pushed, Bytes.of(172))), 9);
        }
        CHECKS.equal("a push of none ahead of 41", withOut(Bytes.join(Bytes.of(0), forty, Bytes.of(172))), 9);
        CHECKS.equal("numbers ahead of 41", withOut(Bytes.join(Bytes.of(79, 80, 96), forty, Bytes.of(172))), 9);
        CHECKS.equal("in an IF that is not taken", withOut(Bytes.join(Bytes.of(0, 99), forty, Bytes.of(172, 104))), 9);
        CHECKS.equal("behind a RETURN", withOut(Bytes.join(Bytes.of(106), forty, Bytes.of(172))), 9);
        // A push beyond the end of one script is no matter of the next one.
        CHECKS.equal("a push beyond in one, 41 in the next", withTx(new Tx().in(OTHER, 0).out(1, Bytes.of(75)).out(1, Bytes.join(forty, Bytes.of(172)))), 9);
        CHECKS.equal("a push beyond in one, 40 in the next", withTx(new Tx().in(OTHER, 0, Bytes.of(75), 0).out(1, Bytes.of(76)).out(1, forty)), 10);
        // A block that was refused leaves nothing that the next one counts.
        Tx full = draft().usualCoinbase(1, forty);
        for (int i = 0; i < 20; i++) {
            full.out(0, forty);
        }
        Tx wide = new Tx().out(1);
        for (int i = 0; i < 20; i++) {
            wide.in(OTHER, i, forty, 0);
        }
        for (Node refused : new Node[] {draft().coinbase(full).mined(), draft().tx(wide).mined()}) {
            CoinKeeper keeper = new CoinKeeper();
            CHECKS.equal("20 times 40 and more", refused.to(keeper), 9);
            CHECKS.equal("40 behind them", draft().coinbase(draft().usualCoinbase(1, forty)).mined().to(keeper), 0);
        }
        byte[] half = Bytes.many(172, 20);
        CHECKS.equal("of two OUTPUTS", draft().tx(new Tx().in(OTHER, 0).out(1, half).out(1, half)).mined().to(new CoinKeeper()), 10);
        CHECKS.equal("of OUTPUTS and INPUT", draft().tx(new Tx().in(OTHER, 0, Bytes.of(172), 0).out(1, half).out(1, half))
                .mined().to(new CoinKeeper()), 9);
        CHECKS.equal("of two TXS", draft().tx(new Tx().in(OTHER, 0).out(1, half)).tx(new Tx().in(OTHER, 1).out(1, Bytes.many(173, 21)))
                .mined().to(new CoinKeeper()), 9);
        CHECKS.equal("of the coinbase's INPUT, 40", withCoinbase(Bytes.join(Bytes.of(81), Bytes.many(172, 40))), 0);
        CHECKS.equal("of the coinbase's INPUT, 41", withCoinbase(Bytes.join(Bytes.of(81), Bytes.many(172, 41))), 9);
    }

    private static int locked(long lock, long sequence, long time) {
        return draft().time(time).tx(new Tx().in(OTHER, 0, Tx.NONE, Tx.LAST).in(OTHER, 1, Tx.NONE, sequence).out(1).lock(lock))
                .mined().to(new CoinKeeper());
    }

    /** "each TX is final (locktime 0, or below HEIGHT, or, from 500000000 on, below the BLOCK's time, or all its sequences are 4294967295)" */
    private static void locks() {
        long time = 500000010;
        CHECKS.equal("0", locked(0, 0, time), 10);
        CHECKS.equal("the height", locked(1, 0, time), 9);
        CHECKS.equal("the height, but final", locked(1, Tx.LAST, time), 10);
        CHECKS.equal("nearly final", locked(1, Tx.LAST - 1, time), 9);
        CHECKS.equal("the greatest height", locked(499999999, 0, time), 9);
        CHECKS.equal("the least time", locked(500000000, 0, time), 10);
        CHECKS.equal("a time below", locked(time - 1, 0, time), 10);
        CHECKS.equal("the time", locked(time, 0, time), 9);
        CHECKS.equal("the time, but final", locked(time, Tx.LAST, time), 10);
        CHECKS.equal("the least time, of that time", locked(500000000, 0, 500000000), 9);
        CHECKS.equal("the least time, a second later", locked(500000000, 0, 500000001), 10);
        CHECKS.equal("the greatest height, long ago", locked(499999999, 0, Tx.LAST), 9);
        CHECKS.equal("the greatest height, but final", locked(499999999, Tx.LAST, time), 10);
        CHECKS.equal("the greatest locktime, but final", locked(Tx.LAST, Tx.LAST, time), 10);
        CHECKS.equal("one below the greatest time", locked(Tx.LAST - 1, 0, Tx.LAST), 10);
        CHECKS.equal("the greatest time", locked(Tx.LAST, 0, Tx.LAST), 9);
        CHECKS.equal("across the sign", locked(0x7FFFFFFFL, 0, 0x80000000L), 10);
        CHECKS.equal("across the sign, the other way", locked(0x80000000L, 0, 0x7FFFFFFFL), 9);
        CHECKS.equal("none final", draft().tx(new Tx().in(OTHER, 0, Tx.NONE, Tx.LAST - 1).in(OTHER, 1, Tx.NONE, Tx.LAST).out(1).lock(1))
                .mined().to(new CoinKeeper()), 9);
        CHECKS.equal("a second TX that is not final", draft().tx(new Tx().in(OTHER, 0).out(1)).tx(new Tx().in(OTHER, 1, Tx.NONE, 0).out(1).lock(1))
                .mined().to(new CoinKeeper()), 9);
        CHECKS.equal("a time without sign", locked(0x80000000L, 0, 0x80000001L), 10);
        CHECKS.equal("a greater one", locked(0xFFFFFFFFL, 0, 0x80000001L), 9);
        CHECKS.equal("a time below, with an early block", locked(500000000, 0, 1000001), 9);
        CoinKeeper keeper = new CoinKeeper();
        Node one = Node.genesis().next().mined();
        CHECKS.equal("first", one.to(keeper), 0);
        CHECKS.equal("below the height", one.next().tx(new Tx().in(OTHER, 0, Tx.NONE, 0).out(1).lock(1)).mined().to(keeper), 10);
        CHECKS.equal("the height 2", one.next().tx(new Tx().in(OTHER, 0, Tx.NONE, 0).out(1).lock(2)).mined().to(keeper), 9);
        Tx coinbase = new Tx().in(new byte[32], Tx.LAST, Bytes.of(82, 0), 0).out(1).lock(2);
        CHECKS.equal("a coinbase, too", one.next().coinbase(coinbase).mined().to(keeper), 9);
    }
}
