import java.io.ByteArrayOutputStream;
import java.security.MessageDigest;
import java.security.NoSuchAlgorithmException;

/** Rows of bytes, as Bitcoin writes numbers into them. */
public final class Bytes {
    private final ByteArrayOutputStream out = new ByteArrayOutputStream();

    public Bytes add(byte[] bytes) {
        out.write(bytes, 0, bytes.length);
        return this;
    }

    public Bytes number(long value, int size) {
        for (int i = 0; i < size; i++) {
            out.write((int) (value >>> 8 * i));
        }
        return this;
    }

    public Bytes count(long value) {
        if (value < 253) {
            return number(value, 1);
        }
        return value < 65536 ? number(253, 1).number(value, 2) : number(254, 1).number(value, 4);
    }

    public byte[] made() {
        return out.toByteArray();
    }

    /** A row from numbers 0 to 255. */
    public static byte[] of(int... values) {
        byte[] bytes = new byte[values.length];
        for (int i = 0; i < values.length; i++) {
            bytes[i] = (byte) values[i];
        }
        return bytes;
    }

    public static byte[] hex(String text) {
        String digits = text.replace(" ", "");
        byte[] bytes = new byte[digits.length() / 2];
        for (int i = 0; i < bytes.length; i++) {
            bytes[i] = (byte) Integer.parseInt(digits.substring(2 * i, 2 * i + 2), 16);
        }
        return bytes;
    }

    public static String text(byte[] bytes) {
        StringBuilder text = new StringBuilder();
        for (byte b : bytes) {
            text.append(Character.forDigit(b >> 4 & 15, 16)).append(Character.forDigit(b & 15, 16));
        }
        return text.toString();
    }

    public static byte[] join(byte[]... parts) {
        Bytes all = new Bytes();
        for (byte[] part : parts) {
            all.add(part);
        }
        return all.made();
    }

    public static byte[] many(int value, int times) {
        byte[] bytes = new byte[times];
        java.util.Arrays.fill(bytes, (byte) value);
        return bytes;
    }

    public static byte[] sha(byte[] bytes) {
        try {
            return MessageDigest.getInstance("SHA-256").digest(bytes);
        } catch (NoSuchAlgorithmException e) {
            throw new IllegalStateException(e);
        }
    }

    public static byte[] hash(byte[] bytes) {
        return sha(sha(bytes));
    }

    public static int word(byte[] bytes, int k) {
        return bytes[4 * k] & 255 | (bytes[4 * k + 1] & 255) << 8 | (bytes[4 * k + 2] & 255) << 16 | bytes[4 * k + 3] << 24;
    }

    /** Makes THE ROW of a keeper these bytes. */
    public static CoinKeeper row(CoinKeeper keeper, byte[] bytes) {
        keeper.end(0);
        for (int at = 0; at < bytes.length; at += 20) {
            int[] words = new int[5];
            for (int i = 0; i < 20; i++) {
                int value = at + i < bytes.length ? bytes[at + i] & 255 : 0;
                words[i / 4] |= value << 24 - 8 * (i % 4);
            }
            keeper.feed(words[0], words[1], words[2], words[3], words[4]);
        }
        keeper.end(bytes.length);
        return keeper;
    }
}
