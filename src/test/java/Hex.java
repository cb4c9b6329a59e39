/** Bytes as texts of base 16, and the forms that heads are made of; a '|' in a text is there for the reader alone. */
final class Hex {
    private Hex() {
    }

    static String byteOf(int b) {
        return String.format("%02x", b);
    }

    static int[] bytes(String hex) {
        String[] parts = parts(hex);
        int[] bytes = new int[parts.length];
        for (int i = 0; i < parts.length; i++) {
            bytes[i] = Integer.parseInt(parts[i], 16);
        }
        return bytes;
    }

    static int length(String hex) {
        return parts(hex).length;
    }

    /** Blanks and bars become one blank. */
    static String plain(String hex) {
        return String.join(" ", parts(hex));
    }

    private static String[] parts(String hex) {
        String text = hex.replaceAll("[ |]+", " ").trim();
        return text.isEmpty() ? new String[0] : text.split(" ");
    }

    static String repeated(String hex, int times) {
        return (hex.trim() + " ").repeat(times);
    }

    static String var(long v) {
        StringBuilder text = new StringBuilder();
        long rest = v;
        while ((rest & ~127L) != 0) {
            text.append(byteOf((int) (rest & 127) + 128)).append(' ');
            rest >>>= 7;
        }
        return text.append(byteOf((int) rest)).append(' ').toString();
    }

    static String zig(long v) {
        return var(v < 0 ? -2 * v - 1 : 2 * v);
    }

    /** Numbers of a width in bits, so many, those that are not told 0: from the lowest bit of the first byte on. */
    static String packed(int width, int many, long... numbers) {
        int[] bytes = new int[(width * many + 7) / 8];
        for (int bit = 0; bit < width * many; bit++) {
            int i = bit / width;
            boolean one = i < numbers.length && (numbers[i] >>> bit % width & 1) == 1;
            bytes[bit / 8] |= one ? 1 << bit % 8 : 0;
        }
        StringBuilder text = new StringBuilder();
        for (int b : bytes) {
            text.append(byteOf(b)).append(' ');
        }
        return text.toString();
    }

    static String fourBytes(int v) {
        return byteOf(v & 255) + " " + byteOf(v >> 8 & 255) + " " + byteOf(v >> 16 & 255) + " " + byteOf(v >>> 24) + " ";
    }

    /** A data page; its HEAD has 13 bytes, if the BODY has less than 64 and there are less than 64 VALUES. */
    static String page(int many, int code, String body) {
        return head("00", length(body), "2c", many, code) + plain(body) + " ";
    }

    static String dictionary(int many, String body) {
        return head("04", length(body), "4c", many, 0) + plain(body) + " ";
    }

    private static String head(String what, int length, String field, int many, int code) {
        return "15 " + what + " 15 " + zig(length) + "15 " + zig(length) + field + " 15 " + zig(many) + "15 " + zig(code)
            + "00 00 ";
    }
}
