import java.util.Arrays;

/** Terms, 3 SCRIPTS: each sentence that names an edge, and both its sides. */
public final class EdgeScriptTest {
    private static final Checks CHECKS = new Checks("EdgeScriptTest");
    private static final CoinKeeper KEEPER = new CoinKeeper();
    private static final byte[] NONE = new byte[0];

    public static void main(String[] args) {
        pushesOfOneByte();
        pushesBySeventySix();
        smallNumbers();
        nothing();
        thingsThatAreNeeded();
        ifs();
        verifies();
        otherStack();
        ifDup();
        picked();
        sizes();
        numberResults();
        thingsApart();
        numbersOfFourBytes();
        comparisons();
        withinRange();
        truths();
        others();
        keysAndSigs();
        opsInAll();
        keysAreOps();
        thingsInAll();
        endOfIf();
        eachByItself();
        CHECKS.close();
    }

    private static void due(boolean due, byte[] first, byte[] second) {
        Bytes.row(KEEPER, Bytes.join(first, second));
        CHECKS.equal(Bytes.text(first) + " " + Bytes.text(second), KEEPER.script(first.length) ? 1 : 0, due ? 1 : 0);
    }

    private static void due(boolean due, String first, String second) {
        due(due, Bytes.hex(first), Bytes.hex(second));
    }

    private static byte[] ones(int many) {
        return Bytes.many(81, many);
    }

    private static byte[] nops(int many) {
        return Bytes.many(97, many);
    }

    /** What a script leaves, from the bottom, and nothing else. */
    private static void leaves(String script, String... things) {
        StringBuilder check = new StringBuilder(script);
        for (int i = things.length - 1; i >= 0; i--) {
            check.append(String.format("%02x", things[i].length() / 2)).append(things[i]).append("88");
        }
        due(true, "", check + "749169 51");
    }

    /** "0 to 75 push as many bytes"; "pushes beyond the end, which fail" */
    private static void pushesOfOneByte() {
        for (int length = 0; length <= 75; length++) {
            byte[] push = Bytes.join(Bytes.of(length), Bytes.many(3, length));
            due(true, push, Bytes.of(130, 1, length, 156));
            due(true, push, Bytes.of(116, 81, 156));
            due(length > 0, NONE, push);
            if (length > 0) {
                due(false, NONE, Bytes.join(Bytes.of(81), Arrays.copyOf(push, length)));
                due(false, Bytes.join(Bytes.of(81), Arrays.copyOf(push, length)), Bytes.of(81));
                due(true, Bytes.of(81), Bytes.join(Bytes.of(0, 99), push, Bytes.of(104)));
                due(false, Bytes.of(81), Bytes.join(Bytes.of(0, 99), Arrays.copyOf(push, length), Bytes.of(104)));
                due(false, Bytes.of(81), Bytes.join(Bytes.of(0, 99), Arrays.copyOf(push, length)));
            }
        }
    }

    /** "76 as many as the next byte says" */
    private static void pushesBySeventySix() {
        for (int length : new int[] {0, 1, 75, 76, 77, 127, 128, 252, 253, 254, 255}) {
            byte[] push = Bytes.join(Bytes.of(76, length), Bytes.many(3, length));
            due(true, push, Bytes.of(130, 2, length, 0, 156));
            due(length > 0, NONE, push);
            byte[] less = Arrays.copyOf(push, push.length - 1);
            due(false, NONE, Bytes.join(Bytes.of(81), less));
            due(true, Bytes.of(81), Bytes.join(Bytes.of(0, 99), push, Bytes.of(104)));
            due(false, Bytes.of(81), Bytes.join(Bytes.of(0, 99), less));
        }
        due(false, "51", "4c");
        due(false, "51 4c", "");
        due(false, "51", "00 63 4c");
        due(false, "51 4c", "00");
        due(false, "51", "4c01");
    }

    /** "79 to 96 the numbers -1, 1 to 16 (79, 81 to 96)" */
    private static void smallNumbers() {
        leaves("4f", "81");
        for (int n = 1; n <= 16; n++) {
            leaves(String.format("%02x", 80 + n), String.format("%02x", n));
        }
        due(false, "51", "50 51");
        due(true, "51", "00 63 50 68");
        due(false, "51", "4e 51");
    }

    /** "97 nothing" */
    private static void nothing() {
        leaves("61");
        leaves("52 61", "02");
        due(false, "", "61");
        due(false, "51", "60 62 51");
    }

    /** "all as Bitcoin's": of each op, how many things it needs; one less fails. */
    private static void thingsThatAreNeeded() {
        int[][] needs = {{97, 0}, {105, 1}, {107, 1}, {115, 1}, {116, 0}, {117, 1}, {118, 1}, {119, 2}, {120, 2}, {121, 2}, {122, 2},
            {123, 3}, {124, 2}, {125, 2}, {109, 2}, {110, 2}, {130, 1}, {135, 2}, {136, 2}, {139, 1}, {140, 1}, {143, 1}, {144, 1}, {145, 1},
            {146, 1}, {147, 2}, {148, 2}, {154, 2}, {155, 2}, {156, 2}, {157, 2}, {158, 2}, {159, 2}, {160, 2}, {161, 2}, {162, 2}, {163, 2},
            {164, 2}, {165, 3}, {166, 1}, {168, 1}, {169, 1}, {170, 1}, {172, 2}};
        for (int[] need : needs) {
            // PICK and ROLL take the lowest for a number of 0, all others 1 and 1.
            byte[] top = need[0] == 121 || need[0] == 122 ? Bytes.of(0) : Bytes.of(81);
            byte[] enough = need[1] == 0 ? NONE : Bytes.join(ones(need[1] - 1), top);
            due(true, enough, Bytes.of(need[0], 81));
            due(true, NONE, Bytes.join(enough, Bytes.of(need[0], 81)));
            if (need[1] > 0) {
                byte[] less = need[1] == 1 ? NONE : Bytes.join(ones(need[1] - 2), top);
                due(false, less, Bytes.of(need[0], 81));
                due(false, NONE, Bytes.join(less, Bytes.of(need[0], 81)));
            }
        }
        due(false, "00", "ad 51");
        due(false, "", "ad 51");
    }

    /** "99 IF, 100 NOTIF, 103 ELSE, 104 ENDIF" */
    private static void ifs() {
        due(false, "", "63 68 51");
        due(false, "", "64 68 51");
        due(true, "51", "63 68 51");
        due(true, "51", "64 68 51");
        due(true, "51", "00 63 63 68 64 68 68");
        leaves("51 63 52 68", "02");
        leaves("00 63 52 68");
        leaves("51 64 52 68");
        leaves("00 64 52 68", "02");
        for (String top : new String[] {"00", "0180", "020000", "020080", "4c00"}) {
            leaves(top + "63 52 67 53 68", "03");
            leaves(top + "64 52 67 53 68", "02");
        }
        for (String top : new String[] {"51", "4f", "020100", "028000", "050000000001", "09800000000000000000"}) {
            leaves(top + "63 52 67 53 68", "02");
            leaves(top + "64 52 67 53 68", "03");
        }
        due(false, "", "63 51");
        due(false, "", "64 51");
        due(false, "51", "67 51");
        due(false, "51", "68 51");
        due(false, "51 51", "63 68 67");
        due(false, "51 51", "63 68 68");
        leaves("51 63 52 67 53 67 54 67 55 68", "02", "04");
        leaves("00 63 52 67 53 67 54 67 55 68", "03", "05");
        leaves("00 63 51 63 67 52 68 52 67 53 68", "03");
    }

    /** "105 VERIFY, 106 RETURN" */
    private static void verifies() {
        leaves("51 69");
        leaves("52 51 69", "02");
        due(false, "51", "00 69 51");
        due(false, "51", "0180 69 51");
        due(true, "51", "020001 69");
        due(false, "51", "6a");
        due(false, "51", "6a 51");
        due(false, "51 6a", "51");
        due(true, "51", "00 63 6a 68");
        due(false, "51 51", "63 6a 68");
    }

    /** "107, 108 to and from the other stack" */
    private static void otherStack() {
        leaves("51 6b 6c", "01");
        leaves("51 52 6b 6b 6c 6c", "01", "02");
        due(false, "", "6b 51");
        due(false, "51", "6c 51");
        due(true, "51", "6b 6c");
        due(false, "51", "6b 6c 6c");
        due(false, "51", "6b");
    }

    /** "115 IFDUP": true things alone. */
    private static void ifDup() {
        leaves("00 73", "");
        leaves("0180 73", "80");
        leaves("020080 73", "0080");
        leaves("51 73", "01", "01");
        leaves("028000 73", "8000", "8000");
        leaves("0100 73", "00");
    }

    /** "121 PICK, 122 ROLL": from 0 to one less than there are. */
    private static void picked() {
        for (int many = 1; many <= 17; many++) {
            byte[] things = NONE;
            for (int i = 1; i <= many; i++) {
                things = Bytes.join(things, Bytes.of(1, i + 20));
            }
            for (int n = 0; n <= many; n++) {
                byte[] which = Bytes.join(things, Bytes.of(1, n));
                boolean there = n < many;
                due(there, which, Bytes.join(Bytes.of(121, 1, 20 + many - n, 136, 116, 1, many, 156)));
                due(there, which, Bytes.join(Bytes.of(122, 1, 20 + many - n, 136, 116, 1, many - 1, 156)));
            }
        }
        for (String op : new String[] {"79", "7a"}) {
            due(false, "51 51", "4f" + op);
            due(true, "51 51", "0180" + op);
            due(true, "51 51", "0400000000" + op);
            due(false, "51 51", "050000000000" + op);
            due(false, "51 51", "04ffffff7f" + op);
            due(false, "51 51", "04ffffffff" + op);
            due(false, "51 51", "0400000001" + op);
            due(false, "51 51", "020001" + op);
        }
    }

    /** "116 DEPTH", "130 SIZE": of none, of 127 and 128, of the most. */
    private static void sizes() {
        for (int many : new int[] {0, 1, 2, 16, 17, 127, 128, 199}) {
            byte[] number = many == 0 ? Bytes.of(0) : many < 128 ? Bytes.of(1, many) : Bytes.of(2, many, 0);
            if (many < 199) {
                due(true, ones(many), Bytes.join(Bytes.of(116), number, Bytes.of(135)));
            }
            due(true, Bytes.join(Bytes.of(76, many), Bytes.many(1, many)), Bytes.join(Bytes.of(130), number, Bytes.of(135)));
        }
        due(true, ones(198), Bytes.of(116, 2, 198, 0, 135));
        due(true, ones(199), Bytes.of(116));
        due(false, ones(200), Bytes.of(116, 117));
        due(true, Bytes.join(Bytes.of(76, 255), Bytes.many(1, 255)), Bytes.of(130, 2, 255, 0, 135));
        // The other stack's are not of DEPTH.
        leaves("51 52 6b 74 6c", "01", "01", "02");
    }

    /** Numbers as Bitcoin's: in as few bytes as they need, the highest bit for the sign. */
    private static void numberResults() {
        String[][] rows = {{"7e", "7f", "8000"}, {"fe00", "ff00", "0001"}, {"fe7f", "ff7f", "008000"}, {"feff00", "ffff00", "000001"},
            {"feff7f", "ffff7f", "00008000"}, {"feffff00", "ffffff00", "00000001"}, {"feffff7f", "ffffff7f", "0000008000"}};
        for (String[] row : rows) {
            String pushed = String.format("%02x", row[1].length() / 2) + row[1];
            leaves(pushed + "8c", row[0]);
            leaves(pushed + "8b", row[2]);
            leaves(pushed + "00 93", row[1]);
            leaves(pushed + "8f", minus(row[1]));
            leaves(pushed + "8f 8b", minus(row[0]));
            leaves(pushed + "8f 8c", minus(row[2]));
            leaves(pushed + "8f 90", row[1]);
        }
        leaves("51 8c", "");
        leaves("00 8c", "81");
        leaves("4f 8b", "");
        leaves("00 8b", "01");
        leaves("00 8f", "");
        leaves("0180 8f", "");
        leaves("0180 90", "");
        leaves("020000 90", "");
        leaves("53 53 94", "");
        leaves("04ffffff7f 04ffffff7f 93", "feffffff00");
        leaves("04ffffffff 04ffffffff 93", "feffffff80");
        leaves("04ffffff7f 04ffffffff 94", "feffffff00");
        leaves("04ffffffff 04ffffff7f 94", "feffffff80");
        leaves("04ffffff7f 04ffffffff 93", "");
        leaves("0401000000 52 a3", "01");
        leaves("0401000080 52 a3", "81");
        leaves("0402000000 51 a4", "02");
    }

    /** Things on the stack are each by itself, though ops made them. */
    private static void thingsApart() {
        leaves("51 8b 52 8b 53 8b", "02", "03", "04");
        leaves("02ff00 8b 0401000000 8b 4f 8c 00 8c", "0001", "02", "82", "81");
        leaves("51 52 93 76 8b 76 8b", "03", "04", "05");
        leaves("00 74 82 74", "", "01", "01", "03");
        leaves("00 a6 00 a8", "9c1185a5c5e9fc54612808977ee8f548b2258d31", "e3b0c44298fc1c149afbf4c8996fb92427ae41e4649b934ca495991b7852b855");
        leaves("00 a8 00 a6 51 8b", "e3b0c44298fc1c149afbf4c8996fb92427ae41e4649b934ca495991b7852b855",
                "9c1185a5c5e9fc54612808977ee8f548b2258d31", "02");
        leaves("51 8b 76 8f 7c 8f 8f", "82", "02");
        leaves("53 76 a8 75 76 8b 6b 76 8b 8b 6c", "03", "05", "04");
    }

    private static String minus(String number) {
        byte[] bytes = Bytes.hex(number);
        bytes[bytes.length - 1] |= (byte) 128;
        return Bytes.text(bytes);
    }

    /** "numbers of more than 4 bytes": 4 bytes are fine at each place of each op, 5 are not. */
    private static void numbersOfFourBytes() {
        int[] ofOne = {139, 140, 143, 144, 145, 146, 121, 122};
        int[] ofTwo = {147, 148, 154, 155, 156, 157, 158, 159, 160, 161, 162, 163, 164};
        String four = "0400000000";
        String five = "050000000000";
        for (int op : ofOne) {
            String last = String.format("%02x", op) + "51";
            due(true, "51 51", four + last);
            due(false, "51 51", five + last);
        }
        for (int op : ofTwo) {
            String last = String.format("%02x", op) + "51";
            due(true, "", four + four + last);
            due(false, "", five + four + last);
            due(false, "", four + five + last);
        }
        due(true, "", four + four + four + "a5 51");
        due(false, "", five + four + four + "a5 51");
        due(false, "", four + five + four + "a5 51");
        due(false, "", four + four + five + "a5 51");
        due(true, "00", four + four + "ae");
        due(false, "00", four + five + "ae 51");
        due(false, "00", five + four + "ae 51");
        // A result of 5 bytes is fine until it is a number again.
        due(true, "", "04ffffff7f 8b 82 55 9d");
        due(false, "", "04ffffff7f 8b 8c");
        due(true, "", "04ffffff7f 8b 69 51");
        // What only moves, compares or hashes things takes no numbers.
        due(true, five, "73 76 87 69 51");
        due(true, five, "63 67 51 68");
    }

    /** "156 NUMEQUAL .. 164 MAX": one below, the same, one above. */
    private static void comparisons() {
        // Of each op: whether it holds for a less than b, the same, a greater.
        int[][] rows = {{156, 0, 1, 0}, {158, 1, 0, 1}, {159, 1, 0, 0}, {160, 0, 0, 1}, {161, 1, 1, 0}, {162, 0, 1, 1}};
        String[][] pairs = {{"51", "52"}, {"4f", "00"}, {"00", "51"}, {"0182", "4f"}, {"017f", "028000"}, {"04feffff7f", "04ffffff7f"},
            {"04ffffffff", "04feffffff"}, {"04ffffffff", "04ffffff7f"}, {"02ff00", "020001"}};
        for (int[] row : rows) {
            byte[] op = Bytes.of(row[0]);
            for (String[] pair : pairs) {
                byte[] a = Bytes.hex(pair[0]);
                byte[] b = Bytes.hex(pair[1]);
                due(row[1] == 1, Bytes.join(a, b), op);
                due(row[2] == 1, Bytes.join(a, a), op);
                due(row[2] == 1, Bytes.join(b, b), op);
                due(row[3] == 1, Bytes.join(b, a), op);
            }
        }
        due(true, "51 51", "9d 51");
        due(false, "51 52", "9d 51");
        due(true, "0180 00", "9d 51");
        due(false, "0180 00", "88 51");
        due(true, "00 00", "88 51");
        for (String[] pair : pairs) {
            byte[] a = Bytes.hex(pair[0]);
            byte[] b = Bytes.hex(pair[1]);
            due(true, Bytes.join(a, b), Bytes.join(Bytes.of(163), a, Bytes.of(135)));
            due(true, Bytes.join(b, a), Bytes.join(Bytes.of(163), a, Bytes.of(135)));
            due(true, Bytes.join(a, b), Bytes.join(Bytes.of(164), b, Bytes.of(135)));
            due(true, Bytes.join(b, a), Bytes.join(Bytes.of(164), b, Bytes.of(135)));
        }
        String[][] bools = {{"00", "00", "", ""}, {"00", "51", "", "01"}, {"51", "00", "", "01"}, {"4f", "52", "01", "01"}, {"0180", "51", "", "01"},
            {"0180", "0180", "", ""}};
        for (String[] row : bools) {
            leaves(row[0] + row[1] + "9a", row[2]);
            leaves(row[0] + row[1] + "9b", row[3]);
        }
    }

    /** "165 WITHIN": from the lower one on, below the upper one. */
    private static void withinRange() {
        String[] numbers = {"0183", "0182", "4f", "00", "51", "52", "53"};
        for (int x = 0; x < 7; x++) {
            for (int low = 0; low < 7; low++) {
                for (int high = 0; high < 7; high++) {
                    due(x >= low && x < high, numbers[x] + numbers[low] + numbers[high], "a5");
                }
            }
        }
    }

    /** "leave something true on top": as Bitcoin's, 0 and -0 of any length are false, and so is an empty stack. */
    private static void truths() {
        due(false, "", "");
        due(false, "51", "75");
        for (int length = 0; length <= 80; length++) {
            byte[] bytes = Bytes.many(0, length);
            byte[] push = Bytes.join(Bytes.of(76, length), bytes);
            due(false, push, NONE);
            due(false, Bytes.of(81), push);
            for (int place : new int[] {0, length / 2, length - 1}) {
                if (length > 0) {
                    bytes = Bytes.many(0, length);
                    bytes[place] = (byte) 128;
                    due(place != length - 1, Bytes.join(Bytes.of(76, length), bytes), NONE);
                    bytes[place] = 1;
                    due(true, Bytes.join(Bytes.of(76, length), bytes), NONE);
                    bytes[length - 1] |= (byte) 128;
                    due(true, NONE, Bytes.join(Bytes.of(76, length), bytes));
                }
            }
        }
    }

    /** "Others fail, if they are reached (in an IF that is not taken they are nothing ..)"; "77 and 78 are others" */
    private static void others() {
        int[] none = {77, 78, 80, 98, 101, 102, 111, 112, 113, 114, 126, 127, 128, 129, 131, 132, 133, 134, 137, 138, 141, 142, 149, 150, 151,
            152, 153, 167, 171};
        for (int i = 0; i < none.length + 80; i++) {
            int op = i < none.length ? none[i] : 176 + i - none.length;
            due(false, ones(4), Bytes.of(op, 81));
            due(false, ones(4), Bytes.of(81, 81, op));
            due(false, Bytes.of(81, 81, 81, op), Bytes.of(81));
            due(true, Bytes.of(81), Bytes.of(0, 99, op, 104));
            due(false, Bytes.of(81), Bytes.of(81, 99, op, 104));
            due(true, Bytes.of(81), Bytes.of(81, 100, op, 104));
            due(true, Bytes.of(81), Bytes.of(81, 99, 103, op, 104));
            due(false, Bytes.of(81), Bytes.of(0, 99, 103, op, 104));
            due(true, Bytes.of(81), Bytes.of(0, 99, 81, 99, op, 103, op, 104, 104));
        }
        // They push nothing: what follows is read as ops.
        due(true, "51", "00 63 4d 68");
        due(true, "51", "00 63 4e 68");
        due(true, "51", "00 63 4d 0100 68");
        due(false, "51", "00 63 4d 0200 68");
    }

    /** "174 CHECKMULTISIG" as Bitcoin's: 0 to 20 keys, 0 to as many SIGS, and one thing more. */
    private static void keysAndSigs() {
        for (int keys = 0; keys <= 22; keys++) {
            byte[] many = Bytes.join(ones(keys), Bytes.of(1, keys));
            due(keys <= 20, Bytes.of(0, 0), Bytes.join(many, Bytes.of(174)));
            due(keys <= 20, Bytes.of(0, 0), Bytes.join(many, Bytes.of(175, 81)));
            // Without the one thing more, and with a key less than it says.
            due(false, Bytes.of(0), Bytes.join(many, Bytes.of(174, 81)));
            if (keys > 0) {
                due(false, NONE, Bytes.join(ones(keys - 1), Bytes.of(1, keys, 174, 81)));
                due(false, NONE, Bytes.join(ones(keys), Bytes.of(1, keys, 174, 81)));
            }
        }
        for (int sigs = 0; sigs <= 4; sigs++) {
            byte[] check = Bytes.of(1, sigs, 82, 82, 82, 83, 174, 117, 81);
            due(sigs <= 3, Bytes.join(Bytes.of(0), ones(sigs)), check);
            due(false, ones(sigs), check);
            due(sigs == 0, Bytes.join(Bytes.of(0), ones(sigs)), Arrays.copyOf(check, 7));
        }
        due(false, ones(3), Bytes.of(79, 174, 81));
        due(false, ones(3), Bytes.of(79, 0, 174, 81));
        due(true, ones(3), Bytes.of(1, 128, 0, 174, 81));
        due(true, ones(3), Bytes.of(0, 1, 128, 174, 81));
        due(false, NONE, Bytes.of(174, 81));
        // The thing more may be anything, and nothing else is taken.
        leaves("55 56 00 00 ae", "05", "01");
        leaves("55 56 00 53 51 ae", "05", "01");
        leaves("55 00 54 51 53 51 ae", "05", "");
    }

    /** "It fails, too, with more than 201 of them above 96" */
    private static void opsInAll() {
        due(true, nops(201), Bytes.of(81));
        due(false, nops(202), Bytes.of(81));
        due(true, Bytes.of(81), nops(201));
        due(false, Bytes.of(81), nops(202));
        // Each script by itself.
        due(true, nops(201), Bytes.join(nops(201), Bytes.of(81)));
        // 96 is not above 96, and neither are pushes: 100 DROPS, 100 times 16, 101 DROPS.
        byte[] most = Bytes.join(Bytes.many(96, 101), Bytes.many(117, 101), Bytes.many(96, 100), Bytes.many(117, 99), Bytes.of(97));
        due(true, most, NONE);
        due(false, Bytes.join(most, Bytes.of(97)), NONE);
        due(true, Bytes.join(most, Bytes.of(1, 97, 79, 76, 1, 97)), NONE);
        // Those that are not taken count, too; IF and ENDIF do.
        for (int op : new int[] {97, 118, 172, 174, 255, 101, 106}) {
            due(true, Bytes.of(81), Bytes.join(Bytes.of(0, 99), Bytes.many(op, 199), Bytes.of(104)));
            due(false, Bytes.of(81), Bytes.join(Bytes.of(0, 99), Bytes.many(op, 200), Bytes.of(104)));
        }
        for (int op : new int[] {0, 77, 78, 79, 80, 96}) {
            due(true, Bytes.of(81), Bytes.join(nops(199), Bytes.of(0, 99), Bytes.many(op, 300), Bytes.of(104)));
        }
        due(true, Bytes.of(81), Bytes.join(nops(198), Bytes.of(0, 99, 103, 104)));
        due(false, Bytes.of(81), Bytes.join(nops(199), Bytes.of(0, 99, 103, 104)));
    }

    /** "(the keys of a CHECKMULTISIG are of the 201, too ..)" */
    private static void keysAreOps() {
        for (int keys = 0; keys <= 20; keys++) {
            byte[] check = Bytes.join(Bytes.of(0, 0), ones(keys), Bytes.of(1, keys, 174));
            due(true, NONE, Bytes.join(nops(200 - keys), check));
            due(false, NONE, Bytes.join(nops(201 - keys), check));
            due(true, NONE, Bytes.join(check, nops(200 - keys)));
            due(false, NONE, Bytes.join(check, nops(201 - keys)));
            byte[] verify = Bytes.join(Bytes.of(0, 0), ones(keys), Bytes.of(1, keys, 175, 81));
            due(true, NONE, Bytes.join(nops(200 - keys), verify));
            due(false, NONE, Bytes.join(nops(201 - keys), verify));
        }
        // One that is not taken has no keys.
        byte[] aside = Bytes.join(Bytes.of(0, 0, 1, 20, 0, 99, 174, 104));
        due(true, aside, Bytes.of(81));
        due(true, NONE, Bytes.join(nops(198), aside, Bytes.of(81)));
        due(false, NONE, Bytes.join(nops(199), aside, Bytes.of(81)));
    }

    /** "more than 200 things on both stacks" */
    private static void thingsInAll() {
        due(true, ones(200), NONE);
        due(false, ones(201), NONE);
        due(true, ones(100), ones(100));
        due(false, ones(100), ones(101));
        due(true, ones(200), Bytes.join(Bytes.many(107, 199)));
        due(true, ones(200), Bytes.join(Bytes.many(107, 100), Bytes.many(108, 100)));
        // Each op that makes one thing more, with 199 and with 200, here and on both stacks.
        byte[][] more = {Bytes.of(81), Bytes.of(0), Bytes.of(1, 7), Bytes.of(76, 1, 7), Bytes.of(79), Bytes.of(115), Bytes.of(116), Bytes.of(118),
            Bytes.of(120), Bytes.of(125), Bytes.of(130)};
        for (byte[] one : more) {
            byte[] then = Bytes.join(one, Bytes.of(117));
            due(true, ones(199), then);
            due(false, ones(200), then);
            due(true, ones(199), Bytes.join(Bytes.many(107, 90), then));
            due(false, ones(200), Bytes.join(Bytes.many(107, 90), then));
        }
        due(true, ones(198), Bytes.of(110));
        due(false, ones(199), Bytes.of(110));
        due(false, ones(200), Bytes.of(110));
        // Those that make none more.
        for (int op : new int[] {97, 107, 121, 122, 123, 124, 139, 143, 166, 168, 169, 170}) {
            due(true, ones(200), Bytes.of(op));
        }
        due(true, Bytes.join(ones(199), Bytes.of(0)), Bytes.of(115, 145));
        // In an IF that is not taken nothing is pushed.
        due(true, ones(199), Bytes.join(Bytes.of(0, 99), ones(50), Bytes.of(104)));
        due(false, ones(200), Bytes.join(Bytes.of(0, 99), ones(50), Bytes.of(104)));
        due(true, ones(200), Bytes.join(Bytes.of(100), ones(50), Bytes.of(104)));
        due(true, ones(200), Bytes.join(Bytes.of(99), ones(1), Bytes.of(104)));
        due(false, ones(200), Bytes.join(Bytes.of(99), ones(2), Bytes.of(104)));
    }

    /** "IF without ENDIF" */
    private static void endOfIf() {
        due(true, "51", "51 63 68");
        due(false, "51", "51 63");
        due(false, "51", "00 63");
        due(false, "51", "51 64");
        due(false, "51", "51 63 67");
        due(false, "51", "51 51 63 63 68");
        due(true, "51", "51 51 63 63 68 68");
        due(false, "51 51 63", "68");
        due(false, "51 51 63", "51");
        due(false, "51 00 63", "68 51");
        for (int deep : new int[] {1, 2, 50, 99, 100}) {
            byte[] open = Bytes.many(99, deep);
            due(true, ones(deep + 1), Bytes.join(open, Bytes.many(104, deep)));
            due(false, ones(deep + 1), Bytes.join(open, Bytes.many(104, deep - 1)));
            due(false, ones(deep), Bytes.join(open, Bytes.many(104, deep)));
            due(false, ones(deep + 1), Bytes.join(open, Bytes.many(104, deep + 1)));
            due(true, Bytes.of(81, 0), Bytes.join(open, Bytes.many(104, deep)));
            due(false, Bytes.of(81, 0), Bytes.join(open, Bytes.many(104, deep - 1)));
        }
        // As deep as 201 can be, all but the first not taken; it never ends, and fails for that.
        due(false, Bytes.of(81, 0), Bytes.many(99, 201));
        due(false, Bytes.of(81, 0), Bytes.many(99, 202));
    }

    /** "The other stack is empty at first for each script."; each script by itself to its end */
    private static void eachByItself() {
        due(false, "51 52 6b", "6c");
        due(true, "51 52 6b", "");
        due(true, "51 52 6b", "6b 6c");
        // What the first one left there does not count for the second one's 200.
        byte[] left = Bytes.join(ones(101), Bytes.many(107, 100));
        due(true, left, ones(199));
        due(false, left, ones(200));
        // A push does not go on in the next script, and neither does an op.
        due(false, "51 02 51", "51 51");
        due(false, "51 4c", "01 51");
        due(true, "", "02 51 51");
        // The first one's failure is one, whatever the second one leaves.
        due(false, "69", "51");
        due(false, "ff", "51");
        due(true, "00", "51");
    }
}
