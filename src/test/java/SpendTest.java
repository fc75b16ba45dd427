/** Terms, 2 THE CHAIN, what is VALID (else 10 to 14): each sentence that names an edge, and both its sides. */
public final class SpendTest {
    private static final Checks CHECKS = new Checks("SpendTest");
    private static final long COIN = 5000000000L;
    private static final byte[] FALSE = Bytes.of(0);

    public static void main(String[] args) {
        unspent();
        ripe();
        amounts();
        order();
        signatures();
        signedParts();
        eachByItself();
        made();
        halvings();
        CHECKS.close();
    }

    /** A keeper, the tip of its chain, and what its blocks made. */
    private static final class Chain {
        final CoinKeeper keeper = new CoinKeeper();
        Node tip = Node.genesis();

        /** Blocks whose coinbases have this script. */
        Chain grown(int blocks, byte[] script) {
            for (int i = 0; i < blocks; i++) {
                Node.Draft draft = tip.next();
                tip = draft.coinbase(draft.usualCoinbase(Node.subsidy(draft.height()), script)).mined();
                CHECKS.equal("grown to " + tip.height, tip.to(keeper), 0);
            }
            return this;
        }

        Tx coinbase(int height) {
            Node node = tip;
            while (node.height > height) {
                node = node.before;
            }
            return node.coinbase;
        }

        int with(Tx... txs) {
            Node.Draft draft = tip.next();
            for (Tx tx : txs) {
                draft.tx(tx);
            }
            return draft.mined().to(keeper);
        }
    }

    private static Chain chain() {
        return new Chain().grown(6, Tx.ONE);
    }

    /** "each INPUT is an OUTPUT that is unspent (of TXS before it in the BLOCK, the COINBASE with them, too) (10 ..)" */
    private static void unspent() {
        Tx first = new Tx().in(chain().coinbase(1), 0).out(COIN - 7).out(7);
        Tx second = new Tx().in(first, 1).out(3).out(4);
        CHECKS.equal("spends", chain().with(first), 0);
        CHECKS.equal("one that is not there", chain().with(new Tx().in(Bytes.many(5, 32), 0).out(1)), 10);
        CHECKS.equal("an index that is not there", chain().with(new Tx().in(chain().coinbase(1), 1).out(1)), 10);
        CHECKS.equal("the greatest index", chain().with(new Tx().in(chain().coinbase(1), Tx.LAST).out(1)), 10);
        CHECKS.equal("one of a TX before", chain().with(first, second), 0);
        CHECKS.equal("one of a TX behind", chain().with(second, first), 10);
        CHECKS.equal("spent by a TX before", chain().with(first, new Tx().in(chain().coinbase(1), 0).out(1)), 10);
        CHECKS.equal("its own", chain().with(new Tx().in(new byte[32], 0).out(1)), 10);
        Chain chain = chain();
        Node with = chain.tip.next().tx(first).tx(second).mined();
        CHECKS.equal("taken", with.to(chain.keeper), 0);
        chain.tip = with;
        CHECKS.equal("spent by a block before", chain.with(new Tx().in(chain.coinbase(1), 0).out(1)), 10);
        CHECKS.equal("spent in the block that made it", chain.with(new Tx().in(first, 1).out(1)), 10);
        CHECKS.equal("of a block before", chain.with(new Tx().in(first, 0).in(second, 1).in(second, 0).out(1)), 0);
    }

    /** "(each by itself to its end)": what is open, or fails, in the INPUT's script is not mended by the OUTPUT's. */
    private static void eachByItself() {
        byte[][] locks = {Tx.ONE, Bytes.of(104, 81), Bytes.of(108), Bytes.of(117, 81), Tx.NONE, Bytes.of(135)};
        byte[][] scripts = {Bytes.of(), Bytes.of(81), Bytes.of(0), Bytes.of(81, 99), Bytes.of(81, 107), Bytes.of(106), Bytes.of(2, 81), Bytes.of(81, 81)};
        // Of each lock, whether the scripts open it.
        int[][] due = {{1, 1, 1, 0, 1, 0, 0, 1}, {0, 0, 0, 0, 0, 0, 0, 0}, {0, 0, 0, 0, 0, 0, 0, 0}, {0, 1, 1, 0, 0, 0, 0, 1},
            {0, 1, 0, 0, 0, 0, 0, 1}, {0, 0, 0, 0, 0, 0, 0, 1}};
        for (int i = 0; i < locks.length; i++) {
            for (int j = 0; j < scripts.length; j++) {
                Chain chain = new Chain().grown(5, locks[i]);
                String what = Bytes.text(scripts[j]) + " for " + Bytes.text(locks[i]);
                CHECKS.equal(what, chain.with(new Tx().in(chain.coinbase(1).id(), 0, scripts[j], 0).out(1)), due[i][j] == 1 ? 0 : 13);
            }
        }
        // Each INPUT has a stack of its own, and each must leave something true.
        Chain chain = new Chain().grown(6, Tx.NONE);
        Tx first = new Tx().in(chain.coinbase(1).id(), 0, Bytes.of(81, 81), 0).in(chain.coinbase(2).id(), 0, Tx.NONE, 0).out(1);
        Tx second = new Tx().in(chain.coinbase(1).id(), 0, Tx.NONE, 0).in(chain.coinbase(2).id(), 0, Bytes.of(81), 0).out(1);
        Tx both = new Tx().in(chain.coinbase(1).id(), 0, Bytes.of(81), 0).in(chain.coinbase(2).id(), 0, Bytes.of(81), 0).out(1);
        CHECKS.equal("the first alone is true", chain.with(first), 13);
        CHECKS.equal("the second alone is true", chain.with(second), 13);
        CHECKS.equal("both are true", chain.with(both), 0);
    }

    /** "those of a COINBASE are of at least 5 HEIGHTS before (11)" */
    private static void ripe() {
        for (int blocks = 1; blocks <= 6; blocks++) {
            Chain chain = new Chain().grown(blocks, Tx.ONE);
            CHECKS.equal("a coinbase " + blocks + " before", chain.with(new Tx().in(chain.coinbase(1), 0).out(1)), blocks < 5 ? 11 : 0);
        }
        // What a TX made of a coinbase is no coinbase's: it is spent at once, and so is what that made.
        Chain old = new Chain().grown(5, Tx.ONE);
        Tx first = new Tx().in(old.coinbase(1), 0).out(2).out(1);
        Tx second = new Tx().in(first, 0).out(2);
        CHECKS.equal("a TX's, at once", old.with(first, second, new Tx().in(second, 0).in(first, 1).out(3)), 0);
        Chain mixed = new Chain().grown(6, Tx.ONE);
        CHECKS.equal("one that is ripe, one that is not", mixed.with(new Tx().in(mixed.coinbase(1), 0).in(mixed.coinbase(3), 0).out(1)), 11);
        CHECKS.equal("the other way round", mixed.with(new Tx().in(mixed.coinbase(3), 0).in(mixed.coinbase(1), 0).out(1)), 11);
        CHECKS.equal("both are ripe", mixed.with(new Tx().in(mixed.coinbase(2), 0).in(mixed.coinbase(1), 0).out(1)), 0);
        Chain chain = chain();
        Node.Draft draft = chain.tip.next();
        Tx own = draft.usualCoinbase(5, Tx.ONE);
        CHECKS.equal("the block's own", draft.coinbase(own).tx(new Tx().in(own, 0).out(1)).mined().to(chain.keeper), 11);
    }

    /** "what they have is not less than what its OUTPUTS have (12)" */
    private static void amounts() {
        CHECKS.equal("all of it", chain().with(new Tx().in(chain().coinbase(1), 0).out(COIN)), 0);
        CHECKS.equal("one more", chain().with(new Tx().in(chain().coinbase(1), 0).out(COIN + 1)), 12);
        CHECKS.equal("one less", chain().with(new Tx().in(chain().coinbase(1), 0).out(COIN - 1)), 0);
        CHECKS.equal("none of it", chain().with(new Tx().in(chain().coinbase(1), 0).out(0)), 0);
        CHECKS.equal("the most there can be", chain().with(new Tx().in(chain().coinbase(1), 0).out(2100000000000000L)), 12);
        Tx none = new Tx().in(chain().coinbase(1), 0).out(0).out(0);
        CHECKS.equal("nothing of nothing", chain().with(none, new Tx().in(none, 0).in(none, 1).out(0)), 0);
        CHECKS.equal("one of nothing", chain().with(none, new Tx().in(none, 0).in(none, 1).out(1)), 12);
        CHECKS.equal("two together", chain().with(new Tx().in(chain().coinbase(1), 0).in(chain().coinbase(2), 0).out(COIN).out(COIN)), 0);
        CHECKS.equal("two together and one", chain().with(new Tx().in(chain().coinbase(1), 0).in(chain().coinbase(2), 0).out(COIN).out(COIN + 1)), 12);
    }

    /** "TX by TX ..: (10, of all INPUTS of the TX first)", then 11, 12, 13, "and then" 14 */
    private static void order() {
        Tx ripeOne = chain().coinbase(1);
        Tx unripe = chain().coinbase(6);
        byte[] nowhere = Bytes.many(5, 32);
        CHECKS.equal("10 of all ahead of 11", chain().with(new Tx().in(unripe, 0).in(nowhere, 0).out(1)), 10);
        CHECKS.equal("11 ahead of 12", chain().with(new Tx().in(unripe, 0).out(COIN * 2)), 11);
        CHECKS.equal("12 ahead of 13", chain().with(new Tx().in(ripeOne.id(), 0, Bytes.of(106), 0).out(COIN * 2)), 12);
        Tx failing = new Tx().in(ripeOne.id(), 0, Bytes.of(106), 0).out(1);
        Tx missing = new Tx().in(nowhere, 0).out(1);
        CHECKS.equal("13", chain().with(failing), 13);
        CHECKS.equal("13 of a TX ahead of 10 of the next", chain().with(failing, missing), 13);
        CHECKS.equal("10 of a TX ahead of 13 of the next", chain().with(missing, failing), 10);
        Chain chain = chain();
        Node.Draft draft = chain.tip.next();
        Tx rich = draft.usualCoinbase(COIN * 2, Tx.ONE);
        CHECKS.equal("13 ahead of 14", draft.coinbase(rich).tx(failing).mined().to(chain.keeper), 13);
        CHECKS.equal("14", chain.tip.next().coinbase(rich).mined().to(chain.keeper), 14);
        CHECKS.equal("taken", chain.keeper.count(0), 8);
        CHECKS.equal("bad", chain.keeper.count(1), 2);
        CHECKS.equal("tip", chain.keeper.tip(8), 6);
        CHECKS.equal("unspent", chain.keeper.count(2), 6);
        CHECKS.equal("values", chain.keeper.count(3), 6 * COIN);
    }

    /** "for each INPUT its script, then that of the OUTPUT on the same stack .. leave something true on top (13)": with SIGS. */
    private static void signatures() {
        Signer one = new Signer(12345);
        Signer two = new Signer(999);
        byte[][] keys = {one.shortKey(), one.longKey()};
        for (byte[] key : keys) {
            byte[] lock = Bytes.join(Signer.pushed(key), Bytes.of(172));
            Chain chain = new Chain().grown(6, lock);
            Tx tx = new Tx().in(chain.coinbase(1), 0).in(chain.coinbase(2), 0).out(COIN);
            byte[] first = Signer.pushed(one.sig(tx.message(0, lock)));
            byte[] second = Signer.pushed(one.sig(tx.message(1, lock)));
            CHECKS.equal("nothing signed", chain.with(tx), 13);
            CHECKS.equal("one signed", chain.with(tx.script(0, first)), 13);
            CHECKS.equal("signed for each other", chain.with(tx.script(0, second).script(1, first)), 13);
            CHECKS.equal("another signed", chain.with(tx.script(0, first).script(1, Signer.pushed(two.sig(tx.message(1, lock))))), 13);
            CHECKS.equal("signed", chain.with(tx.script(0, first).script(1, second)), 0);
        }
        ofHash(new Signer(1), one);
        verified(one, two);
        many(one, two, new Signer(77));
    }

    /** CHECKSIGVERIFY and CHECKMULTISIGVERIFY leave nothing. */
    private static void verified(Signer one, Signer two) {
        byte[] lock = Bytes.join(Signer.pushed(one.shortKey()), Bytes.of(173, 81), Signer.pushed(two.shortKey()), Bytes.of(81, 175, 116, 145));
        Chain chain = new Chain().grown(6, lock);
        Tx tx = new Tx().in(chain.coinbase(1), 0).out(COIN);
        byte[] message = tx.message(0, lock);
        byte[] first = Signer.pushed(one.sig(message));
        byte[] second = Signer.pushed(two.sig(message));
        CHECKS.equal("in the wrong order", chain.with(tx.script(0, Bytes.join(Bytes.of(0), first, second))), 13);
        CHECKS.equal("the first one wrong", chain.with(tx.script(0, Bytes.join(Bytes.of(0), second, second))), 13);
        CHECKS.equal("the second one wrong", chain.with(tx.script(0, Bytes.join(Bytes.of(0), first, first))), 13);
        CHECKS.equal("both right", chain.with(tx.script(0, Bytes.join(Bytes.of(0), second, first))), 0);
    }

    /** The hash is that of the first one's short key. */
    private static void ofHash(Signer one, Signer other) {
        byte[] hash = Bytes.hex("751e76e8199196d454941c45d1b3a323f1433bd6");
        byte[] lock = Bytes.join(Bytes.of(118, 169, 20), hash, Bytes.of(136, 172));
        Chain chain = new Chain().grown(6, lock);
        Tx tx = new Tx().in(chain.coinbase(1), 0).out(COIN);
        byte[] message = tx.message(0, lock);
        byte[] sig = Signer.pushed(one.sig(message));
        CHECKS.equal("a key of another hash", chain.with(tx.script(0, Bytes.join(Signer.pushed(other.sig(message)),
                Signer.pushed(other.shortKey())))), 13);
        CHECKS.equal("another's signature", chain.with(tx.script(0, Bytes.join(Signer.pushed(other.sig(message)),
                Signer.pushed(one.shortKey())))), 13);
        CHECKS.equal("the long key", chain.with(tx.script(0, Bytes.join(sig, Signer.pushed(one.longKey())))), 13);
        CHECKS.equal("the key of the hash", chain.with(tx.script(0, Bytes.join(sig, Signer.pushed(one.shortKey())))), 0);
    }

    private static void many(Signer one, Signer two, Signer three) {
        byte[] lock = Bytes.join(Bytes.of(82), Signer.pushed(one.shortKey()), Signer.pushed(two.longKey()),
                Signer.pushed(three.shortKey()), Bytes.of(83, 174));
        Chain chain = new Chain().grown(7, lock);
        Tx tx = new Tx().in(chain.coinbase(1), 0).out(COIN);
        byte[] message = tx.message(0, lock);
        byte[] a = Signer.pushed(one.sig(message));
        byte[] b = Signer.pushed(two.sig(message));
        byte[] c = Signer.pushed(three.sig(message));
        byte[] zero = Bytes.of(0);
        CHECKS.equal("in the other order", chain.with(tx.script(0, Bytes.join(zero, b, a))), 13);
        CHECKS.equal("one twice", chain.with(tx.script(0, Bytes.join(zero, a, a))), 13);
        CHECKS.equal("one alone", chain.with(tx.script(0, Bytes.join(zero, a))), 13);
        CHECKS.equal("one and nothing", chain.with(tx.script(0, Bytes.join(zero, a, zero))), 13);
        CHECKS.equal("without the thing behind", chain.with(tx.script(0, Bytes.join(a, b))), 13);
        CHECKS.equal("first and last", chain.with(tx.script(0, Bytes.join(zero, a, c))), 0);
        Chain again = new Chain().grown(7, lock);
        CHECKS.equal("first and second", again.with(tx.script(0, Bytes.join(zero, a, b))), 0);
        again = new Chain().grown(7, lock);
        CHECKS.equal("second and last", again.with(tx.script(0, Bytes.join(zero, b, c))), 0);
    }

    /** Which bytes are signed: a long script of the OUTPUT, and a SIG that the INPUT's own script looks at. */
    private static void signedParts() {
        Signer signer = new Signer(31337);
        byte[] lock = Bytes.join(Bytes.of(76, 255), Bytes.many(1, 255), Bytes.of(117), Signer.pushed(signer.shortKey()), Bytes.of(172));
        Chain chain = new Chain().grown(6, lock);
        Tx tx = new Tx().version(0xFFFFFFFFL).in(chain.coinbase(1), 0).out(7).out(8, Bytes.many(97, 300)).lock(3);
        tx.script(0, Signer.pushed(signer.sig(tx.message(0, lock))));
        CHECKS.equal("a long script", chain.with(tx), 0);
        chain = new Chain().grown(6, Tx.NONE);
        tx = new Tx().in(chain.coinbase(1), 0).out(7);
        byte[] right = Bytes.join(Signer.pushed(signer.sig(tx.message(0, Tx.NONE))), Signer.pushed(signer.shortKey()), Bytes.of(172));
        byte[] own = Bytes.join(Signer.pushed(signer.sig(tx.message(0, Bytes.of(172)))), Signer.pushed(signer.shortKey()), Bytes.of(172));
        CHECKS.equal("in the INPUT's script, of another", chain.with(tx.script(0, own)), 13);
        CHECKS.equal("in the INPUT's script, of the OUTPUT's", chain.with(tx.script(0, right)), 0);
        chain = new Chain().grown(6, FALSE);
        CHECKS.equal("false on top", chain.with(new Tx().in(chain.coinbase(1).id(), 0, Tx.ONE, 0).out(1)), 13);
        chain = new Chain().grown(6, Tx.NONE);
        CHECKS.equal("nothing on the stack", chain.with(new Tx().in(chain.coinbase(1), 0).out(1)), 13);
        CHECKS.equal("true from the INPUT", chain.with(new Tx().in(chain.coinbase(1).id(), 0, Tx.ONE, 0).out(1)), 0);
        byte[] sigFirst = Bytes.join(Signer.pushed(signer.shortKey()), Bytes.of(172, 145));
        chain = new Chain().grown(6, sigFirst);
        CHECKS.equal("a SIG that is none is false, not a failure", chain.with(new Tx().in(chain.coinbase(1).id(), 0, Bytes.of(0), 0).out(1)), 0);
    }

    /** "the COINBASE's values are not above SUBSIDY and what was left over (14)" */
    private static void made() {
        Chain chain = chain();
        Tx pays = new Tx().in(chain.coinbase(1), 0).out(COIN - 10);
        Tx paysMore = new Tx().in(pays, 0).out(COIN - 35);
        Node.Draft draft = chain.tip.next().tx(pays).tx(paysMore);
        CHECKS.equal("one more than is left over", draft.fees(36).mined().to(chain.keeper), 14);
        CHECKS.equal("all that is left over", draft.fees(35).mined().to(chain.keeper), 0);
        CHECKS.equal("values", chain.keeper.count(3), 7 * COIN);
        CHECKS.equal("unspent", chain.keeper.count(2), 7);
        Node.Draft poor = Node.genesis().next();
        CHECKS.equal("less", poor.coinbase(poor.usualCoinbase(1, Tx.ONE).out(2).out(0)).mined().to(chain.keeper), 1);
        CoinKeeper fresh = new CoinKeeper();
        CHECKS.equal("less, taken", poor.mined().to(fresh), 0);
        CHECKS.equal("three OUTPUTS", fresh.count(2), 3);
        CHECKS.equal("their values", fresh.count(3), 3);
        Node.Draft rich = Node.genesis().next();
        CHECKS.equal("more in two", rich.coinbase(rich.usualCoinbase(COIN, Tx.ONE).out(1)).mined().to(new CoinKeeper()), 14);
    }

    /** "SUBSIDY is 5000000000 / 2^(HEIGHT / 20) (cut)": at 19, 20, 21, 39, 40 and 41; LimitTest has 200. */
    private static void halvings() {
        CoinKeeper keeper = new CoinKeeper();
        Node tip = Node.genesis();
        long all = 0;
        for (int height = 1; height <= 41; height++) {
            long subsidy = height < 20 ? COIN : height < 40 ? COIN / 2 : COIN / 4;
            if (height % 20 < 2 || height % 20 == 19) {
                Node.Draft draft = tip.next().mark(1);
                CHECKS.equal("too much at " + height, draft.coinbase(draft.usualCoinbase(subsidy + 1, Tx.ONE)).mined().to(keeper), 14);
            }
            tip = tip.next().mined();
            CHECKS.equal("height " + height, tip.to(keeper), 0);
            all += subsidy;
            CHECKS.equal("all at " + height, keeper.count(3), all);
        }
    }
}
