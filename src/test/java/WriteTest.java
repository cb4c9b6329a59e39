/** Promise 13: what write() puts to the file, byte by byte. */
public final class WriteTest {
    private static final int BAD = -1, FULL = -3;
    private static final int INT = 0, LONG = 1, TEXT = 2, TRUTH = 3;
    private static final int PLAIN = 0, DICTIONARY = 1, PACKED = 2;
    private static final Check CHECK = new Check();

    public static void main(String[] args) {
        wrongCalls();
        noValues();
        plain();
        levels();
        pages();
        dictionaries();
        runs();
        runsOfPlaces();
        differencesOfInts();
        differencesOfLongs();
        differencesOfLengths();
        behind();
        full();
        CHECK.end("WriteTest");
    }

    private static void wrote(ColumnPages x, int c, int way, int q, String hex) {
        String due = hex.trim().replaceAll("[^0-9a-f]+", " ");
        CHECK.due("write(" + c + ", " + way + ", " + q + ")", x.write(c, way, q, false), due.split(" ").length);
        CHECK.due("write(" + c + ", " + way + ", " + q + ")", Check.hex(x), due);
    }

    private static ColumnPages of(int kind, boolean optional, long... numbers) {
        ColumnPages x = new ColumnPages();
        x.column(0, kind, optional);
        Check.numbers(x, 0, numbers);
        return x;
    }

    private static ColumnPages texts(String... texts) {
        ColumnPages x = new ColumnPages();
        x.column(0, TEXT, false);
        for (String text : texts) {
            Check.text(x, 0, text);
        }
        return x;
    }

    private static void wrongCalls() {
        ColumnPages x = of(TRUTH, false, 1, 0);
        x.put(1, 1);
        CHECK.due("column -1", x.write(-1, 0, 1, false), BAD);
        CHECK.due("column 4", x.write(4, 0, 1, false), BAD);
        CHECK.due("way -1", x.write(0, -1, 1, false), BAD);
        CHECK.due("way 3", x.write(0, 3, 1, false), BAD);
        CHECK.due("way 1 of a TRUTH", x.write(0, 1, 1, false), BAD);
        CHECK.due("q 0", x.write(0, 0, 0, false), BAD);
        CHECK.due("q -1", x.write(0, 0, -1, false), BAD);
        CHECK.due("q 201", x.write(0, 0, 201, false), BAD);
        CHECK.due("the file stays", Check.hex(x), "01");
        CHECK.due("way 1 of a TRUTH without values", new ColumnPages().column(0, TRUTH, false), 0);
        x.column(0, TRUTH, false);
        CHECK.due("way 1 of a TRUTH without values", x.write(0, 1, 1, false), BAD);
    }

    private static void noValues() {
        ColumnPages x = new ColumnPages();
        x.put(5, 1);
        CHECK.due("behind", x.write(0, DICTIONARY, 1, true), 1);
        CHECK.due("in place", x.write(0, DICTIONARY, 1, false), 0);
        CHECK.due("in place", x.size(), 0);
    }

    private static void plain() {
        wrote(of(INT, false, 1, -1), 0, PLAIN, 200,
            "15 00 15 10 15 10 2c 15 04 15 00 00 00 | 01 00 00 00 ff ff ff ff");
        wrote(of(LONG, false, 0x0102030405060708L), 0, PLAIN, 1,
            "15 00 15 10 15 10 2c 15 02 15 00 00 00 | 08 07 06 05 04 03 02 01");
        wrote(texts("ab", "", "c"), 0, PLAIN, 3,
            "15 00 15 1e 15 1e 2c 15 06 15 00 00 00 | 02 00 00 00 61 62 00 00 00 00 01 00 00 00 63");
        wrote(of(TRUTH, false, 1, 0, 1, 1, 0, 0, 0, 0, 1), 0, PLAIN, 9,
            "15 00 15 04 15 04 2c 15 12 15 00 00 00 | 0d 01");
        wrote(of(TRUTH, false, 1, 1, 1, 1, 1, 1, 1, 1), 0, PLAIN, 9,
            "15 00 15 02 15 02 2c 15 10 15 00 00 00 | ff");
        ColumnPages x = of(INT, false, 3);
        x.repeat(0, 1, 16);
        CHECK.due("64 bytes", x.write(0, PLAIN, 200, false), 15 + 64);
        CHECK.due("64 bytes", Check.hex(x).substring(0, 3 * 19 - 1),
            "15 00 15 80 01 15 80 01 2c 15 20 15 00 00 00 03 00 00 00");
        x.repeat(0, 1, 15);
        CHECK.due("60 bytes", x.write(0, PLAIN, 200, false), 13 + 60);
        x.column(0, INT, false);
        x.add(0, 0);
        x.repeat(0, 1, 64);
        x.write(0, PLAIN, 200, false);
        CHECK.due("64 values", Check.hex(x).substring(0, 3 * 16 - 1),
            "15 00 15 80 04 15 80 04 2c 15 80 01 15 00 00 00");
    }

    private static void levels() {
        ColumnPages x = of(INT, true, 1);
        x.addNone(0);
        wrote(x, 0, PLAIN, 200, "15 00 15 14 15 14 2c 15 04 15 00 00 00 | 02 00 00 00 03 01 | 01 00 00 00");
        x = of(TRUTH, true);
        for (int i = 0; i < 8; i++) {
            x.addNone(0);
        }
        x.add(0, 1);
        wrote(x, 0, PLAIN, 200, "15 00 15 12 15 12 2c 15 12 15 00 00 00 | 04 00 00 00 10 00 03 01 | 01");
        wrote(x, 0, PACKED, 8, "15 00 15 14 15 14 2c 15 10 15 06 00 00 | 02 00 00 00 10 00 | 00 00 00 00 "
            + "15 00 15 18 15 18 2c 15 02 15 06 00 00 | 02 00 00 00 03 01 | 02 00 00 00 03 01");
        x = of(TRUTH, true, 0, 0, 0, 0, 0, 0, 0, 0);
        wrote(x, 0, PLAIN, 200, "15 00 15 0e 15 0e 2c 15 10 15 00 00 00 | 02 00 00 00 10 01 | 00");
    }

    private static void pages() {
        wrote(of(TRUTH, false, 1, 0, 1, 1, 1), 0, PLAIN, 2,
            "15 00 15 02 15 02 2c 15 04 15 00 00 00 | 01 15 00 15 02 15 02 2c 15 04 15 00 00 00 | 03 "
            + "15 00 15 02 15 02 2c 15 02 15 00 00 00 | 01");
        ColumnPages x = of(INT, false, 9);
        x.repeat(0, 1, 200);
        CHECK.due("200 pages", x.write(0, PLAIN, 1, false), 200 * 17);
        CHECK.due("two pages", x.write(0, PLAIN, 199, false), 16 + 796 + 17);
        CHECK.due("one page", x.write(0, PLAIN, 200, false), 16 + 800);
    }

    private static void dictionaries() {
        wrote(of(INT, false, 5, 5, 7), 0, DICTIONARY, 200,
            "15 04 15 10 15 10 4c 15 04 15 00 00 00 | 05 00 00 00 07 00 00 00 "
            + "15 00 15 06 15 06 2c 15 06 15 10 00 00 | 01 03 04");
        wrote(of(LONG, true, 5, 5), 0, DICTIONARY, 200,
            "15 04 15 10 15 10 4c 15 02 15 00 00 00 | 05 00 00 00 00 00 00 00 "
            + "15 00 15 10 15 10 2c 15 04 15 10 00 00 | 02 00 00 00 03 03 | 00 03");
        wrote(texts("b", "a", "b", "", "a"), 0, DICTIONARY, 3,
            "15 04 15 1c 15 1c 4c 15 06 15 00 00 00 | 01 00 00 00 62 01 00 00 00 61 00 00 00 00 "
            + "15 00 15 08 15 08 2c 15 06 15 10 00 00 | 02 03 04 00 "
            + "15 00 15 08 15 08 2c 15 04 15 10 00 00 | 02 03 06 00");
        wrote(of(INT, false, 6), 0, DICTIONARY, 200, "15 04 15 08 15 08 4c 15 02 15 00 00 00 | 06 00 00 00 "
            + "15 00 15 04 15 04 2c 15 02 15 10 00 00 | 00 03");
        ColumnPages x = of(INT, true);
        x.addNone(0);
        x.addNone(0);
        wrote(x, 0, DICTIONARY, 200, "15 04 15 00 15 00 4c 15 00 15 00 00 00 "
            + "15 00 15 0e 15 0e 2c 15 04 15 10 00 00 | 02 00 00 00 03 00 | 00");
        wrote(of(INT, false, 1, 2, 3, 4, 5), 0, DICTIONARY, 200,
            "15 04 15 28 15 28 4c 15 0a 15 00 00 00 | 01 00 00 00 02 00 00 00 03 00 00 00 04 00 00 00 05 00 00 00 "
            + "15 00 15 0a 15 0a 2c 15 0a 15 10 00 00 | 03 03 88 46 00");
    }

    /** RUNS of one bit, by CODE 3. */
    private static void runs() {
        oneBitRuns("1111111", "03 7f");
        oneBitRuns("11111111", "10 01");
        oneBitRuns("00000000", "10 00");
        oneBitRuns("0000000", "03 00");
        oneBitRuns("1011111111", "05 fd 03");
        oneBitRuns("1000000011111111", "03 01 10 01");
        oneBitRuns("10000000111111110", "03 01 10 01 03 00");
        oneBitRuns("1000000011111110", "05 01 7f");
        oneBitRuns("111111110000000010", "10 01 10 00 03 01");
        oneBitRuns("1111111110000000010", "12 01 10 00 03 01");
        oneBitRuns("100000000111111111", "07 01 fe 03");
        oneBitRuns("1010101011111111111111111", "03 55 22 01");
        ColumnPages x = of(TRUTH, false, 1);
        x.repeat(0, 1, 200);
        wrote(x, 0, PACKED, 200, "15 00 15 0e 15 0e 2c 15 90 03 15 06 00 00 | 03 00 00 00 90 03 01");
    }

    private static void oneBitRuns(String bits, String runs) {
        ColumnPages x = of(TRUTH, false);
        for (char bit : bits.toCharArray()) {
            x.add(0, bit - '0');
        }
        int length = runs.split(" ").length;
        String body = String.format("%02x", 2 * (length + 4));
        wrote(x, 0, PACKED, 200, "15 00 15 " + body + " 15 " + body + " 2c 15 "
            + String.format("%02x", 2 * bits.length()) + " 15 06 00 00 " + String.format("%02x", length)
            + " 00 00 00 " + runs);
    }

    private static void runsOfPlaces() {
        ColumnPages x = of(INT, false, 4);
        x.repeat(0, 1, 9);
        wrote(x, 0, DICTIONARY, 200, "15 04 15 08 15 08 4c 15 02 15 00 00 00 | 04 00 00 00 "
            + "15 00 15 04 15 04 2c 15 12 15 10 00 00 | 00 12");
        x.repeat(0, 1, 7);
        wrote(x, 0, DICTIONARY, 200, "15 04 15 08 15 08 4c 15 02 15 00 00 00 | 04 00 00 00 "
            + "15 00 15 04 15 04 2c 15 0e 15 10 00 00 | 00 03");
        x = of(LONG, false);
        for (int i = 0; i < 129; i++) {
            x.add(0, i);
        }
        for (int i = 0; i < 8; i++) {
            x.add(0, 128);
        }
        x.write(0, DICTIONARY, 128, false);
        CHECK.due("nine alike, the places eight bits wide", Check.hex(x).substring(3 * (16 + 129 * 8 + 17 + 1 + 128)),
            "15 00 15 06 15 06 2c 15 12 15 10 00 00 08 12 80");
    }

    private static void differencesOfInts() {
        wrote(of(INT, false, 7, 5, 3, 1, 2, 3, 4, 5), 0, PACKED, 200,
            "15 00 15 24 15 24 2c 15 10 15 0a 00 00 | 80 01 04 08 0e | 03 02 00 00 00 | c0 3f 00 00 00 00 00 00");
        wrote(of(INT, false, 1, 4, 3, 5), 0, PACKED, 200,
            "15 00 15 2c 15 2c 2c 15 08 15 0a 00 00 | 80 01 04 04 02 | 01 03 00 00 00 | c4 00 00 00 00 00 00 00 "
            + "00 00 00 00");
        wrote(of(INT, false, -3), 0, PACKED, 200, "15 00 15 0a 15 0a 2c 15 02 15 0a 00 00 | 80 01 04 01 05");
        ColumnPages x = of(INT, true);
        x.addNone(0);
        wrote(x, 0, PACKED, 200,
            "15 00 15 16 15 16 2c 15 02 15 0a 00 00 | 02 00 00 00 03 00 | 80 01 04 00 00");
        wrote(of(INT, false, Integer.MIN_VALUE, Integer.MAX_VALUE), 0, PACKED, 200,
            "15 00 15 1c 15 1c 2c 15 04 15 0a 00 00 | 80 01 04 02 ff ff ff ff 0f | 01 00 00 00 00");
        x = of(INT, false);
        for (int i = 0; i < 130; i++) {
            x.add(0, i);
        }
        wrote(x, 0, PACKED, 200, "15 00 15 20 15 20 2c 15 84 02 15 0a 00 00 | 80 01 04 82 01 00 "
            + "| 02 00 00 00 00 | 02 00 00 00 00");
        x.repeat(0, 129, 1);
        wrote(x, 0, PACKED, 200, "15 00 15 16 15 16 2c 15 82 02 15 0a 00 00 | 80 01 04 81 01 00 | 02 00 00 00 00");
        x = of(INT, false, 0, Integer.MIN_VALUE, -1);
        CHECK.due("32 bits", x.write(0, PACKED, 200, false), 15 + 5 + 5 + 4 + 128);
        CHECK.due("32 bits", Check.hex(x).substring(0, 3 * 38 - 1), "15 00 15 9c 02 15 9c 02 2c 15 06 15 0a 00 00 "
            + "80 01 04 03 00 ff ff ff ff 0f 20 00 00 00 00 00 00 00 ff ff ff ff 00");
        x = of(INT, false);
        for (int i = 0; i < 34; i++) {
            x.add(0, i == 33 ? 34 : i);
        }
        wrote(x, 0, PACKED, 200, "15 00 15 1c 15 1c 2c 15 44 15 0a 00 00 | 80 01 04 22 00 | 02 00 01 00 00 "
            + "| 01 00 00 00");
    }

    private static void differencesOfLongs() {
        wrote(of(LONG, false, Long.MIN_VALUE, Long.MAX_VALUE), 0, PACKED, 200,
            "15 00 15 26 15 26 2c 15 04 15 0a 00 00 | 80 01 04 02 ff ff ff ff ff ff ff ff ff 01 | 01 00 00 00 00");
        ColumnPages x = of(LONG, false, 0, Long.MIN_VALUE, -1);
        CHECK.due("64 bits", x.write(0, PACKED, 200, false), 15 + 5 + 10 + 4 + 256);
        CHECK.due("64 bits", Check.hex(x).substring(0, 3 * 51 - 1), "15 00 15 a6 04 15 a6 04 2c 15 06 15 0a 00 00 "
            + "80 01 04 03 00 ff ff ff ff ff ff ff ff ff 01 40 00 00 00 00 00 00 00 00 00 00 00 "
            + "ff ff ff ff ff ff ff ff 00");
    }

    private static void differencesOfLengths() {
        wrote(texts("ab", "", "c"), 0, PACKED, 200,
            "15 00 15 2a 15 2a 2c 15 06 15 0c 00 00 | 80 01 04 03 04 | 03 02 00 00 00 | 0c 00 00 00 00 00 00 00 "
            + "| 61 62 63");
        wrote(texts("ab", "c"), 0, PACKED, 1,
            "15 00 15 0e 15 0e 2c 15 02 15 0c 00 00 | 80 01 04 01 04 | 61 62 "
            + "15 00 15 0c 15 0c 2c 15 02 15 0c 00 00 | 80 01 04 01 02 | 63");
    }

    private static void behind() {
        ColumnPages x = of(TRUTH, false, 1);
        x.put(0xAB, 1);
        CHECK.due("behind", x.write(0, PLAIN, 1, true), 15);
        CHECK.due("behind", Check.hex(x), "ab 15 00 15 02 15 02 2c 15 02 15 00 00 00 01");
        CHECK.due("behind", x.write(0, PLAIN, 1, true), 29);
        CHECK.due("in place", x.write(0, PLAIN, 1, false), 14);
    }

    private static void full() {
        ColumnPages x = new ColumnPages();
        x.column(0, TEXT, true);
        for (int i = 0; i < 5; i++) {
            x.type(-1, 8);
        }
        x.addText(0);
        x.repeat(0, 1, 200);
        x.put(0x0102, 2);
        CHECK.due("200 pages of 64 bytes", x.write(0, PACKED, 1, false), FULL);
        CHECK.due("the file stays", Check.hex(x), "02 01");
        x.repeat(0, 187, 1);
        CHECK.due("187 pages of 64 bytes", x.write(0, PACKED, 1, false), 187 * 64);
        x.column(1, TRUTH, false);
        x.add(1, 1);
        CHECK.due("14 more", x.write(1, PLAIN, 1, true), 11982);
        x.put(1, 4);
        CHECK.due("12000", x.write(1, PLAIN, 1, true), 12000);
        CHECK.due("14 more", x.write(1, PLAIN, 1, true), FULL);
        CHECK.due("the last page", x.byteAt(11999), 1);
        CHECK.due("nothing more", x.size(), 12000);
        CHECK.due("no values behind", x.write(2, PLAIN, 1, true), 12000);
        x.cut(11987);
        CHECK.due("12001", x.write(1, PLAIN, 1, true), FULL);
        x.cut(11986);
        CHECK.due("12000", x.write(1, PLAIN, 1, true), 12000);
        CHECK.due("in place", x.write(1, PLAIN, 1, false), 14);
    }
}
