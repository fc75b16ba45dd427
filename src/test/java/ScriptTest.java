/** Promise 5: scripts, one op after the other. */
public final class ScriptTest {
    private static final Checks CHECKS = new Checks("ScriptTest");
    private static final CoinKeeper KEEPER = new CoinKeeper();

    public static void main(String[] args) {
        pushes();
        numbers();
        truth();
        branches();
        stacks();
        comparing();
        counting();
        hashes();
        sigs();
        others();
        limits();
        wrongCalls();
        CHECKS.close();
    }

    private static void due(boolean due, byte[] first, byte[] second) {
        Bytes.row(KEEPER, Bytes.join(first, second));
        CHECKS.equal(Bytes.text(first) + " " + Bytes.text(second), KEEPER.script(first.length) ? 1 : 0, due ? 1 : 0);
        CHECKS.equal("row is empty then", KEEPER.count(5), 0);
    }

    private static void due(boolean due, String first, String second) {
        due(due, Bytes.hex(first), Bytes.hex(second));
    }

    /** What a script leaves, from the bottom, and nothing else; each thing with its push. */
    private static void leaves(String script, String... things) {
        StringBuilder check = new StringBuilder(script);
        for (int i = things.length - 1; i >= 0; i--) {
            check.append(String.format("%02x", things[i].length() / 2)).append(things[i]).append("88");
        }
        due(true, "", check + "749169 51");
    }

    private static void fails(String script) {
        due(false, "51 51 51 51", script + " 51");
    }

    private static void pushes() {
        leaves("00", "");
        leaves("0101 02aabb", "01", "aabb");
        leaves("4c00", "");
        leaves("4c03 010203", "010203");
        leaves("4f", "81");
        for (int i = 1; i <= 16; i++) {
            leaves(String.format("%02x", 80 + i), String.format("%02x", i));
        }
        leaves("51 61", "01");
        for (int length = 1; length <= 75; length++) {
            byte[] bytes = Bytes.many(length, length);
            due(true, Bytes.join(Bytes.of(length), bytes), Bytes.join(Bytes.of(76, length), bytes, Bytes.of(135)));
            due(false, Bytes.of(81), Bytes.join(Bytes.of(81, length), Bytes.many(1, length - 1)));
        }
        due(true, Bytes.join(Bytes.of(76, 255), Bytes.many(9, 255)), Bytes.of(130, 2, 255, 0, 156));
        due(false, Bytes.of(81), Bytes.join(Bytes.of(81, 76, 255), Bytes.many(1, 254)));
        due(false, "51", "51 4c");
        due(false, "51 4c", "51");
        due(false, "51 05", "51 51 51 51 51 51");
    }

    private static void numbers() {
        leaves("51 8b", "02");
        leaves("51 8c", "");
        leaves("00 8c", "81");
        leaves("0181 8b", "");
        leaves("04ffffff7f 8b", "0000008000");
        leaves("04ffffffff 8c", "0000008080");
        leaves("04ffffff7f 04ffffff7f 93", "feffffff00");
        leaves("04ffffffff 04ffffff7f 94", "feffffff80");
        leaves("017f 8b", "8000");
        leaves("02ff00 8b", "0001");
        leaves("01ff 8c", "8080");
        leaves("51 8f", "81");
        leaves("4f 8f", "01");
        leaves("00 8f", "");
        leaves("0180 8f", "");
        leaves("04ffffffff 8f", "ffffff7f");
        leaves("04ffffffff 90", "ffffff7f");
        leaves("55 90", "05");
        leaves("00 91", "01");
        leaves("51 91", "");
        leaves("0180 91", "01");
        leaves("04000000 80 91", "01");
        leaves("52 92", "01");
        leaves("4f 92", "01");
        leaves("00 92", "");
        leaves("0100 92", "");
        leaves("0400000001 8b", "01000001");
        leaves("03010000 8b", "02");
        for (String op : new String[] {"8b", "8c", "8f", "90", "91", "92"}) {
            fails("050100000000 " + op);
            due(false, "", op);
        }
    }

    private static void truth() {
        due(false, "", "");
        due(true, "51", "");
        due(true, "", "51");
        due(false, "00", "");
        due(false, "0180", "");
        due(false, "020080", "");
        due(false, "03000000", "");
        due(true, "028000", "");
        due(true, "020001", "");
        due(true, "0181", "");
        due(true, "09000000000000000001", "");
        due(false, "09000000000000000080", "");
        due(true, "00 51", "");
        due(false, "51 00", "");
        leaves("51 69");
        leaves("51 028000 69", "01");
        fails("00 69");
        fails("020080 69");
        due(false, "", "69 51");
        fails("6a");
        due(false, "6a", "51");
    }

    private static void branches() {
        leaves("51 63 52 67 53 68", "02");
        leaves("00 63 52 67 53 68", "03");
        leaves("51 64 52 67 53 68", "03");
        leaves("00 64 52 67 53 68", "02");
        leaves("0180 63 52 68");
        due(false, "", "51 63 52 67 53 68 00");
        due(false, "", "51 64 52 67 53 68 00");
        due(false, "", "00 63 52 67 53 67 54 68 00");
        due(false, "", "00 63 00 63 67 67 68 68 00");
        leaves("51 63 52 67 53 67 54 68", "02", "04");
        leaves("00 63 52 67 53 67 54 68", "03");
        leaves("51 00 63 63 52 67 53 68 67 54 68", "01", "04");
        leaves("00 63 00 63 68 64 67 68 67 55 68", "05");
        leaves("00 63 51 63 52 67 53 68 68");
        leaves("51 51 63 63 52 68 68", "02");
        fails("51 63");
        fails("00 63");
        fails("51 63 67");
        fails("67");
        fails("68");
        fails("51 63 68 68");
        fails("51 63 68 67");
        due(false, "", "63 51 68 51");
        due(false, "", "64 51 68 51");
        due(false, "51 63", "68 51");
        due(false, "51 51 63", "51 68");
        leaves("00 63 69 6a 88 93 ff ba 4d 4e 50 62 65 66 7e ab b0 68");
        fails("00 63 02 68");
        due(false, "", "00 63 4c 68 51");
        due(false, "", "00 63 4c");
        leaves("00 63 4c 01 68 68");
        fails("65");
        fails("66");
        leaves("51 64 65 66 68");
    }

    private static void stacks() {
        leaves("51 6b 52 6c", "02", "01");
        leaves("51 52 6b 6b 6c 6c", "01", "02");
        due(false, "51 6b", "6c");
        due(false, "51 52 6b", "6c 51");
        due(false, "", "6b 51");
        due(false, "51", "6c");
        leaves("51 52 53 6d", "01");
        leaves("51 52 6e", "01", "02", "01", "02");
        leaves("52 73", "02", "02");
        leaves("00 73", "");
        leaves("0180 73", "80");
        leaves("74", "");
        leaves("00 00 74", "", "", "02");
        leaves("51 52 75", "01");
        leaves("53 76", "03", "03");
        leaves("51 52 53 77", "01", "03");
        leaves("51 52 78", "01", "02", "01");
        leaves("51 52 53 00 79", "01", "02", "03", "03");
        leaves("51 52 53 52 79", "01", "02", "03", "01");
        leaves("51 52 53 00 7a", "01", "02", "03");
        leaves("51 52 53 51 7a", "01", "03", "02");
        leaves("51 52 53 52 7a", "02", "03", "01");
        leaves("51 52 53 020200 7a", "02", "03", "01");
        leaves("51 52 53 7b", "02", "03", "01");
        leaves("54 51 52 53 7b", "04", "02", "03", "01");
        leaves("51 52 7c", "02", "01");
        leaves("51 52 7d", "02", "01", "02");
        leaves("00 82", "", "");
        leaves("03010203 82", "010203", "03");
        due(true, Bytes.join(Bytes.of(76, 128), Bytes.many(1, 128)), Bytes.of(130, 2, 128, 0, 135));
        String[] two = {"6d", "6e", "77", "78", "79", "7a", "7c", "7d"};
        for (String op : two) {
            due(false, "", op + "51");
            due(false, "", "00" + op + "51");
        }
        for (String op : new String[] {"73", "75", "76", "82"}) {
            due(false, "", op + "51");
        }
        due(false, "51 51", "7b 51");
        for (String op : new String[] {"79", "7a"}) {
            due(false, "51 52", "52" + op);
            due(true, "51 52", "51" + op);
            due(false, "51 52", "4f" + op);
            due(false, "51 52", "050000000000" + op);
            due(false, "51 52", "04ffffff7f" + op);
            due(false, "51 52", "04ffffffff" + op);
            due(true, "51 52", "0180" + op);
        }
    }

    private static void comparing() {
        leaves("51 51 87", "01");
        leaves("51 52 87", "");
        leaves("00 00 87", "01");
        leaves("51 020100 87", "");
        leaves("020201 020202 87", "");
        leaves("00 0180 87", "");
        leaves("53 51 51 88", "03");
        fails("51 52 88");
        due(false, "51", "87");
        due(false, "51", "88 51");
    }

    private static void counting() {
        String[][] rows = {
            {"93", "05", "", "03", "01"},
            {"94", "01", "", "83", "83"},
            {"9a", "01", "", "", "01"},
            {"9b", "01", "", "01", "01"},
            {"9c", "", "01", "", ""},
            {"9e", "01", "", "01", "01"},
            {"9f", "", "", "01", "01"},
            {"a0", "01", "", "", ""},
            {"a1", "", "01", "01", "01"},
            {"a2", "01", "01", "", ""},
            {"a3", "02", "", "", "81"},
            {"a4", "03", "", "03", "02"}};
        for (String[] row : rows) {
            leaves("53 52" + row[0], row[1]);
            leaves("00 0180" + row[0], row[2]);
            leaves("00 53" + row[0], row[3]);
            leaves("4f 52" + row[0], row[4]);
            due(false, "51", row[0] + "51");
            fails("51 050000000000" + row[0]);
            fails("050000000000 51" + row[0]);
        }
        leaves("53 00 9a", "");
        leaves("53 51 9a", "01");
        leaves("4f 51 9a", "01");
        leaves("53 00 9b", "01");
        leaves("00 51 9b", "01");
        leaves("00 00 9b", "");
        leaves("51 51 9f", "");
        leaves("51 51 a0", "");
        leaves("51 51 9e", "");
        leaves("51 020100 9c", "01");
        leaves("53 51 020100 9d", "03");
        fails("51 52 9d");
        due(false, "51", "9d 51");
        fails("51 050100000000 9d");
        leaves("51 51 53 a5", "01");
        leaves("53 51 53 a5", "");
        leaves("52 51 53 a5", "01");
        leaves("00 51 53 a5", "");
        leaves("4f 4f 00 a5", "01");
        leaves("0182 4f 00 a5", "");
        leaves("51 53 51 a5", "");
        due(false, "51 51", "a5 51");
        fails("050000000000 51 51 a5");
        fails("51 050000000000 51 a5");
        fails("51 51 050000000000 a5");
    }

    /** How many times the letter a, and its RIPEMD160: at the ends of its chunks, too. */
    private static final String[][] RIPEMD_OF_A = {
            {"1", "0bdc9d2d256b3ee9daae347be6f4dc835a467ffe"},
            {"54", "a57fa1577740fd73b6859dd20e090cdac4d2af36"},
            {"55", "0d8a8c9063a48576a7c97e9f95253a6e53ff6765"},
            {"56", "e72334b46c83cc70bef979e15453706c95b888be"},
            {"57", "eed82d19d597ab275b550ff3d6e0bc2a75350388"},
            {"63", "e640041293fe663b9bf3f8c21ffecac03819e6b2"},
            {"64", "9dfb7d374ad924f3f88de96291c33e9abed53e32"},
            {"65", "99724bb11811e7166af38f671b6a082d8ab4960b"},
            {"118", "171e51ad7a3c4ec2adfcea4c5faaafa17e9f2c25"},
            {"119", "23e398ff2bac815aa1bbb57ca2a669c841872919"},
            {"120", "c476770a6dae31fcee8d25efe6559a05c8024595"},
            {"127", "64f2d68b85f394e2e4f49009c4bd50224c2698ed"},
            {"128", "8dfdfb32b2ed5cb41a73478b4fd60cc5b4648b15"},
            {"183", "f3829dc2013a443eff65ed098b29232ce5f2b0b2"},
            {"184", "52a7ad26b98c60e2f14e0863c1b58de525888b11"},
            {"191", "9988abd47931894930899d34150a8597ed4cc562"},
            {"192", "23d0a353342193c627f2989013faf82719fc881b"},
            {"247", "5b4c669232b30567c0345192e2fcca0c44bd8b9a"},
            {"248", "40313b35135a4893ac295662c5ae415f314958ec"},
            {"255", "a9ca9944299c6de8cd955e51d910909f0ac8e203"}};

    private static void hashes() {
        for (String[] row : RIPEMD_OF_A) {
            int length = Integer.parseInt(row[0]);
            due(true, Bytes.join(Bytes.of(76, length), Bytes.many('a', length)),
                    Bytes.join(Bytes.of(166, 20), Bytes.hex(row[1]), Bytes.of(135)));
        }
        leaves("00 a6", "9c1185a5c5e9fc54612808977ee8f548b2258d31");
        leaves("03616263 a6", "8eb208f7e05d987a9b044a8e98c6b087f15a0bfc");
        String alphabet = "6162636465666768696a6b6c6d6e6f707172737475767778797a";
        leaves("1a" + alphabet + "a6", "f71c27109c692c1b56bbdceb5b9d2865b3708dbc");
        String eight = "31323334353637383930";
        leaves("4c50" + eight + eight + eight + eight + eight + eight + eight + eight + "a6", "9b752e45573d4b39f4dbd3323cab82bf63326bfb");
        leaves("00 a8", "e3b0c44298fc1c149afbf4c8996fb92427ae41e4649b934ca495991b7852b855");
        leaves("03616263 a9", "bb1be98c142444d7a56aa3981c3942a978e4dc33");
        for (int length = 0; length <= 255; length++) {
            byte[] bytes = Bytes.many(length + 1, length);
            byte[] pushed = Bytes.join(Bytes.of(76, length), bytes);
            due(true, pushed, Bytes.join(Bytes.of(168, 32), Bytes.sha(bytes), Bytes.of(135)));
            due(true, pushed, Bytes.join(Bytes.of(170, 32), Bytes.hash(bytes), Bytes.of(135)));
            due(true, pushed, Bytes.of(118, 168, 166, 124, 169, 135));
            due(false, pushed, Bytes.of(118, 166, 124, 169, 135));
            due(true, pushed, Bytes.of(130, 2, length, 0, 156));
        }
        for (String op : new String[] {"a6", "a8", "a9", "aa"}) {
            due(false, "", op + "51");
        }
        fails("a7");
    }

    private static void sigs() {
        leaves("51 52 ac", "");
        leaves("00 00 ac", "");
        fails("51 52 ad");
        due(false, "51", "ac 51");
        due(false, "51", "ac 91");
        Signer signer = new Signer(5);
        byte[] both = Bytes.join(Signer.pushed(signer.sig(new byte[32])), Signer.pushed(signer.shortKey()));
        due(false, both, Bytes.of(172));
        due(true, both, Bytes.of(172, 145));
        leaves("00 00 00 ae", "01");
        leaves("00 00 51 51 ae", "01");
        leaves("52 00 51 51 51 53 ae", "01");
        leaves("55 00 00 00 af", "05");
        leaves("00 51 51 52 52 52 ae", "");
        leaves("00 51 52 52 53 53 53 53 ae", "");
        fails("00 51 51 51 51 af");
        due(false, "00 00", "ae 51");
        due(false, "00", "ae 51");
        due(false, "", "ae 51");
        due(false, "00 51 52", "52 ae 51");
        due(false, "51 51 51", "4f ae 51");
        due(false, "00 00 00", "4f 00 ae 51");
        due(false, "00 00", "51 00 ae 51");
        due(false, "00 00 00", "050000000000 ae 51");
        due(false, "00 050000000000", "00 ae 51");
        due(true, Bytes.of(0, 0), Bytes.join(Bytes.many(81, 20), Bytes.of(1, 20, 174)));
        due(false, Bytes.of(0, 0), Bytes.join(Bytes.many(81, 21), Bytes.of(1, 21, 174)));
    }

    private static void others() {
        boolean[] known = new boolean[256];
        int[][] ranges = {{0, 76}, {79, 79}, {81, 97}, {99, 100}, {103, 110}, {115, 125}, {130, 130}, {135, 136}, {139, 140},
            {143, 148}, {154, 166}, {168, 170}, {172, 175}};
        for (int[] range : ranges) {
            java.util.Arrays.fill(known, range[0], range[1] + 1, true);
        }
        for (int op = 0; op < 256; op++) {
            if (!known[op]) {
                due(false, Bytes.of(81, 81, 81, 81), Bytes.of(op, 81));
                due(false, Bytes.of(81, op), Bytes.of(81));
                due(true, Bytes.of(81), Bytes.of(0, 99, op, 104));
            }
        }
    }

    private static void limits() {
        byte[] nops = Bytes.many(97, 201);
        due(true, nops, Bytes.join(nops, Bytes.of(81)));
        due(false, Bytes.join(nops, Bytes.of(97)), Bytes.of(81));
        due(false, Bytes.of(81), Bytes.join(nops, Bytes.of(97)));
        due(false, Bytes.of(81), Bytes.join(nops, Bytes.of(186)));
        due(true, Bytes.of(81), Bytes.join(nops, Bytes.of(1, 97, 96, 81, 79)));
        due(true, Bytes.of(81), Bytes.join(Bytes.of(0, 99), Bytes.many(255, 199), Bytes.of(104)));
        due(false, Bytes.of(81), Bytes.join(Bytes.of(0, 99), Bytes.many(255, 200), Bytes.of(104)));
        due(true, Bytes.of(81), Bytes.join(Bytes.of(0, 99), Bytes.many(80, 500), Bytes.of(104)));
        // A CHECKMULTISIG is one, and its keys are, too.
        for (int keys = 0; keys <= 20; keys++) {
            byte[] check = Bytes.join(Bytes.of(0, 0), Bytes.many(81, keys), Bytes.of(1, keys, 174));
            due(true, Bytes.many(97, 200 - keys), check);
            due(true, new byte[0], Bytes.join(Bytes.many(97, 200 - keys), check));
            due(false, new byte[0], Bytes.join(Bytes.many(97, 201 - keys), check));
        }
        due(true, Bytes.many(81, 200), new byte[0]);
        due(false, Bytes.many(81, 201), new byte[0]);
        due(true, Bytes.many(81, 200), Bytes.of(124));
        due(false, Bytes.many(81, 200), Bytes.of(118, 117));
        due(false, Bytes.many(81, 199), Bytes.of(110, 109));
        due(true, Bytes.many(81, 199), Bytes.of(118, 117));
        due(true, Bytes.many(81, 200), Bytes.of(107, 117));
        due(false, Bytes.many(81, 200), Bytes.of(107, 118, 117));
        due(true, Bytes.many(81, 200), Bytes.of(0x63, 0x51, 0x68));
        due(false, Bytes.many(81, 200), Bytes.of(81, 117));
        due(true, Bytes.many(81, 200), Bytes.of(117, 0, 99, 81, 81, 81, 104));
        due(true, Bytes.many(81, 200), Bytes.join(Bytes.many(107, 200), Bytes.of(108)));
        due(false, Bytes.many(81, 200), Bytes.many(107, 200));
        byte[] deep = Bytes.many(99, 100);
        due(true, Bytes.many(81, 101), Bytes.join(deep, Bytes.many(104, 100)));
        due(false, Bytes.many(81, 101), Bytes.join(deep, Bytes.many(104, 99)));
        byte[] work = Bytes.many(170, 200);
        byte[] due = new byte[0];
        for (int i = 0; i < 400; i++) {
            due = Bytes.hash(due);
        }
        due(true, Bytes.join(Bytes.of(0), work), Bytes.join(work, Bytes.of(32), due, Bytes.of(135)));
    }

    private static void wrongCalls() {
        CoinKeeper keeper = new CoinKeeper();
        CHECKS.thrown("-1 of none", IllegalArgumentException.class, () -> keeper.script(-1) ? 1 : 0);
        CHECKS.thrown("1 of none", IllegalArgumentException.class, () -> keeper.script(1) ? 1 : 0);
        Bytes.row(keeper, Bytes.many(81, 2001));
        CHECKS.thrown("a second one of 1001", IllegalArgumentException.class, () -> keeper.script(1000) ? 1 : 0);
        CHECKS.thrown("a first one of 1001", IllegalArgumentException.class, () -> keeper.script(1001) ? 1 : 0);
        CHECKS.thrown("far off", IllegalArgumentException.class, () -> keeper.script(Integer.MAX_VALUE) ? 1 : 0);
        CHECKS.thrown("below", IllegalArgumentException.class, () -> keeper.script(Integer.MIN_VALUE) ? 1 : 0);
        CHECKS.equal("row stays", keeper.count(5), 2001);
        CHECKS.equal("its bytes, too", keeper.hash(0), Bytes.word(Bytes.hash(Bytes.many(81, 2001)), 0));
        Bytes.row(keeper, Bytes.join(Bytes.many(97, 200), Bytes.many(96, 1), Bytes.many(104, 799), Bytes.many(81, 1000)));
        CHECKS.equal("two of 1000", keeper.script(1000) ? 1 : 0, 0);
        byte[] drops = Bytes.join(Bytes.many(81, 198), Bytes.many(117, 100), Bytes.many(81, 100), Bytes.many(117, 101));
        byte[] full = Bytes.join(drops, Bytes.of(76, 250), Bytes.many(0, 250), Bytes.of(76, 247), Bytes.many(1, 247));
        CHECKS.equal("a script of 1000", full.length, 1000);
        byte[] push = Bytes.join(Bytes.of(76, 255), Bytes.many(1, 255));
        byte[] other = Bytes.join(push, push, push, Bytes.of(76, 227), Bytes.many(2, 227));
        CHECKS.equal("another of 1000", other.length, 1000);
        due(true, full, other);
    }
}
