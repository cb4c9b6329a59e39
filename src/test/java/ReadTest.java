/** Promises 14 and 15: what read() answers and keeps, each fault and its place. */
public final class ReadTest {
    private static final int BAD = -1;
    private static final int INT = 0, LONG = 1, TEXT = 2, TRUTH = 3;
    private static final Check CHECK = new Check();
    /** A dictionary page of the INTS 5 and 7: 21 bytes. */
    private static final String FIVE_SEVEN = "15 04 15 10 15 10 4c 15 04 15 00 00 00 05 00 00 00 07 00 00 00 ";

    public static void main(String[] args) {
        calls();
        kept();
        noPages();
        pagesWithoutValues();
        headEnds();
        vars();
        headFields();
        headZigs();
        howMany();
        codes();
        lateDictionary();
        bodyNotWhole();
        levels();
        runs();
        plainNumbers();
        plainTexts();
        plainTruths();
        differences();
        differencesOfLongs();
        widths();
        lengths();
        truthRuns();
        places();
        dictionaries();
        leftOver();
        roundTrips();
        CHECK.end("ReadTest");
    }

    private static ColumnPages of(int kind, boolean optional, String hex) {
        ColumnPages x = new ColumnPages();
        x.column(0, kind, optional);
        Check.file(x, hex);
        return x;
    }

    private static void fault(int kind, boolean optional, String hex, int fault, int place) {
        CHECK.fault(of(kind, optional, hex), 0, fault, place, 0, 0);
    }

    private static ColumnPages sound(int kind, boolean optional, String hex, int values) {
        ColumnPages x = of(kind, optional, hex);
        CHECK.sound(x, 0, values, 1, 0);
        return x;
    }

    /** A data page with a HEAD of 13 bytes. */
    private static String page(int many, int code, String body) {
        int length = body.trim().isEmpty() ? 0 : body.trim().split("[^0-9a-f]+").length;
        return String.format("15 00 15 %02x 15 %02x 2c 15 %02x 15 %02x 00 00 ", 2 * length, 2 * length, 2 * many,
            2 * code) + body + " ";
    }

    private static void calls() {
        ColumnPages x = new ColumnPages();
        Check.file(x, "16");
        CHECK.due("column -1", x.read(-1), BAD);
        CHECK.due("column 4", x.read(4), BAD);
        CHECK.due("none yet", x.fault(0), 0);
        CHECK.fault(x, 1, 7, 0, 0, 0);
        CHECK.due("column 4", x.read(4), BAD);
        CHECK.due("the latest that was not BAD", x.fault(0), 7);
        CHECK.due("what -1", x.fault(-1), BAD);
        CHECK.due("what 4", x.fault(4), BAD);
        x.cut(0);
        x.put(0x15, 1);
        CHECK.due("fault stays", x.fault(0), 7);
        CHECK.fault(x, 1, 1, 1, 0, 0);
        x.cut(0);
        CHECK.sound(x, 1, 0, 0, 0);
    }

    private static void kept() {
        ColumnPages x = of(INT, true, page(1, 0, "02 00 00 00 03 01 01 00 00 00") + "16");
        x.add(0, 9);
        x.addNone(0);
        CHECK.fault(x, 0, 7, 23, 1, 0);
        CHECK.due("values stay", x.told(0, 2), 2);
        CHECK.due("values stay", x.value(0, 0), 9);
        x.cut(23);
        CHECK.sound(x, 0, 1, 1, 0);
        CHECK.due("value", x.value(0, 0), 1);
        CHECK.due("kind", x.told(0, 0), INT);
        CHECK.due("optional", x.told(0, 1), 1);
        CHECK.due("the file stays", x.size(), 23);
    }

    private static void noPages() {
        for (int kind = INT; kind <= TRUTH; kind++) {
            ColumnPages x = of(kind, kind % 2 == 0, "");
            CHECK.sound(x, 0, 0, 0, 0);
        }
    }

    private static void pagesWithoutValues() {
        sound(INT, false, page(0, 0, ""), 0);
        sound(INT, true, page(0, 0, "00 00 00 00"), 0);
        sound(INT, true, page(0, 5, "00 00 00 00 80 01 04 00 00"), 0);
        sound(INT, true, page(0, 5, "00 00 00 00 80 01 04 00 07"), 0);
        sound(TRUTH, false, page(0, 3, "00 00 00 00"), 0);
        fault(INT, true, page(0, 0, "01 00 00 00 00"), 13, 17);
        fault(INT, true, page(0, 0, ""), 1, 13);
        CHECK.sound(of(INT, false, page(0, 0, "") + page(0, 0, "") + page(1, 0, "01 00 00 00")), 0, 1, 3, 0);
    }

    private static void headEnds() {
        String whole = page(0, 0, "").trim();
        for (int bytes = 1; bytes < 13; bytes++) {
            fault(INT, false, whole.substring(0, 3 * bytes - 1), 1, bytes);
        }
        CHECK.fault(of(INT, false, whole + " 15"), 0, 1, 14, 1, 0);
    }

    private static void vars() {
        sound(INT, false, "15 80 80 00 15 80 00 15 80 80 80 00 2c 15 80 00 15 80 80 80 80 80 80 80 80 80 00 00 00", 0);
        fault(INT, false, "15 80 80 80 80 80 80 80 80 80 02 15", 2, 10);
        fault(INT, false, "15 80 80 80 80 80 80 80 80 80 80 15", 2, 10);
        fault(INT, false, "15 80 80 80 80 80 80 80 80 80 01 15", 8, 1);
        fault(INT, false, "15 80 80 80 80 80 80 80 80 80", 1, 10);
        fault(INT, false, "15 80", 1, 2);
        fault(INT, false, "15 ff ff ff ff ff ff ff ff ff 01", 8, 1);
    }

    private static void headFields() {
        int[] fields = {0, 2, 4, 6, 7, 9, 11, 12};
        for (int i : fields) {
            for (int bit = 0; bit < 8; bit++) {
                ColumnPages x = of(INT, false, page(1, 0, "01 00 00 00"));
                x.poke(i, 1 << bit);
                CHECK.fault(x, 0, 7, i, 0, 0);
            }
        }
        fault(INT, false, "15 04 15 00 15 00 2c 15 00 15 00 00 00", 7, 6);
        fault(INT, false, "15 00 15 00 15 00 4c 15 00 15 00 00 00", 7, 6);
    }

    private static void headZigs() {
        fault(INT, false, "15 02", 8, 1);
        fault(INT, false, "15 01", 8, 1);
        fault(INT, false, "15 06", 8, 1);
        fault(TRUTH, false, "15 04", 8, 1);
        fault(TEXT, false, "15 04", 1, 2);
        fault(INT, false, "15 00 15 01 15", 8, 3);
        fault(INT, false, "15 00 15 00", 1, 4);
        fault(INT, false, "15 00 15 02", 8, 3);
        fault(INT, false, "15 00 15 04 15", 8, 3);
        fault(INT, false, "15 00 15 02 15", 1, 5);
        fault(INT, false, "15 00 15 02 15 00", 8, 5);
        fault(INT, false, "15 00 15 02 15 04", 8, 5);
        fault(INT, false, "15 00 15 fe ff ff ff ff ff ff ff ff 01 15", 8, 3);
        fault(INT, false, "15 00 15 80 80 80 80 20 15", 8, 3);
    }

    private static void howMany() {
        fault(TRUTH, false, "15 00 15 00 15 00 2c 15 01", 8, 8);
        fault(TRUTH, false, "15 00 15 00 15 00 2c 15 92 03", 8, 8);
        fault(TRUTH, false, "15 00 15 00 15 00 2c 15 90 03", 1, 10);
        fault(TRUTH, false, "15 00 15 00 15 00 2c 15 82 80 80 80 20", 8, 8);
        fault(INT, false, "15 04 15 00 15 00 4c 15 01", 8, 8);
        fault(INT, false, "15 04 15 00 15 00 4c 15 92 03", 8, 8);
        fault(INT, false, "15 04 15 00 15 00 4c 15 90 03", 1, 10);
        String runOf150 = "15 00 15 0e 15 0e 2c 15 ac 02 15 06 00 00 03 00 00 00 ac 02 01 ";
        CHECK.fault(of(TRUTH, false, runOf150 + "15 00 15 00 15 00 2c 15 66 15 00"), 0, 8, 21 + 8, 1, 0);
        CHECK.fault(of(TRUTH, false, runOf150 + "15 00 15 00 15 00 2c 15 64"), 0, 1, 21 + 9, 1, 0);
        CHECK.sound(of(TRUTH, false, runOf150 + page(50, 3, "02 00 00 00 64 00")), 0, 200, 2, 0);
        CHECK.sound(of(TRUTH, false, runOf150 + page(50, 3, "02 00 00 00 64 00") + page(0, 0, "")), 0, 200, 3, 0);
        CHECK.fault(of(TRUTH, false, runOf150 + page(50, 3, "02 00 00 00 64 00") + page(1, 0, "01")), 0, 8, 48, 2, 0);
    }

    private static void codes() {
        boolean[][] good = new boolean[4][10];
        good[INT][0] = good[LONG][0] = good[TEXT][0] = good[TRUTH][0] = true;
        good[INT][5] = good[LONG][5] = true;
        good[TEXT][6] = true;
        good[TRUTH][3] = true;
        for (int kind = INT; kind <= TRUTH; kind++) {
            for (int code = -1; code < 10; code++) {
                int zig = code < 0 ? 1 : 2 * code;
                String head = "15 00 15 00 15 00 2c 15 00 15 " + String.format("%02x", zig);
                boolean fits = code >= 0 && good[kind][code];
                fault(kind, false, head, fits ? 1 : 8, fits ? 11 : 10);
                if (kind != TRUTH) {
                    String dictionary = "15 04 15 00 15 00 4c 15 00 15 ";
                    String page = dictionary + "00 00 00 " + head;
                    boolean fitsNow = fits || code == 8;
                    CHECK.fault(of(kind, false, page), 0, fitsNow ? 1 : 8, fitsNow ? 24 : 23, 1, 0);
                    fault(kind, false, dictionary + String.format("%02x", zig), code == 0 ? 1 : 8, code == 0 ? 11 : 10);
                }
            }
        }
        fault(INT, false, "15 00 15 00 15 00 2c 15 00 15 80 80 80 80 20", 8, 10);
    }

    private static void lateDictionary() {
        CHECK.fault(of(INT, false, page(0, 0, "") + "15 04"), 0, 9, 13, 1, 0);
        CHECK.fault(of(INT, false, page(0, 0, "") + "15 84 00 16"), 0, 9, 13, 1, 0);
        CHECK.fault(of(INT, false, page(0, 0, "") + "15 84"), 0, 1, 15, 1, 0);
        CHECK.fault(of(INT, false, FIVE_SEVEN + FIVE_SEVEN), 0, 9, 21, 1, 2);
        CHECK.fault(of(TRUTH, false, page(0, 0, "") + "15 04"), 0, 8, 14, 1, 0);
    }

    private static void bodyNotWhole() {
        fault(INT, false, "15 00 15 08 15 08 2c 15 02 15 00 00 00 01 00 00", 1, 16);
        fault(INT, false, "15 00 15 08 15 08 2c 15 02 15 00 00 00", 1, 13);
        fault(INT, false, "15 04 15 08 15 08 4c 15 02 15 00 00 00 01", 1, 14);
        fault(INT, false, "15 00 15 08 15 08 2c 15 02 15 00 00", 1, 12);
    }

    private static void levels() {
        ColumnPages x = sound(INT, true, page(9, 0, "04 00 00 00 10 00 03 01 06 00 00 00"), 9);
        CHECK.due("absent", x.told(0, 3), 8);
        CHECK.due("there", x.has(0, 8), 1);
        CHECK.due("value", x.value(0, 8), 6);
        x = sound(TRUTH, true, page(3, 0, "02 00 00 00 03 fd 02"), 3);
        CHECK.due("there", x.has(0, 1), 0);
        CHECK.due("first", x.value(0, 0), 0);
        CHECK.due("last", x.value(0, 2), 1);
        fault(INT, true, page(1, 0, "02 00 00"), 1, 16);
        fault(INT, true, page(1, 0, "03 00 00 00 03 00"), 10, 13);
        fault(INT, true, page(1, 0, "ff ff ff ff 03 00"), 10, 13);
        fault(INT, true, page(1, 0, "00 00 00 80 03 00"), 10, 13);
        fault(INT, true, page(1, 0, "00 00 00 00 03 00"), 1, 17);
        fault(INT, true, page(1, 0, "01 00 00 00 03 00"), 1, 18);
        fault(INT, true, page(1, 0, "03 00 00 00 03 00 07"), 13, 19);
        fault(INT, true, page(1, 0, "02 00 00 00 03 00 07"), 13, 19);
        fault(INT, true, page(1, 0, "02 00 00 00 03 01"), 1, 19);
        fault(INT, true, page(1, 0, "02 00 00 00 03 01 09 00 00"), 1, 22);
    }

    private static void runs() {
        // of one bit
        fault(TRUTH, false, page(3, 3, "02 00 00 00 00 01"), 3, 17);
        fault(TRUTH, false, page(3, 3, "02 00 00 00 01 01"), 3, 17);
        fault(TRUTH, false, page(3, 3, "02 00 00 00 08 01"), 3, 17);
        sound(TRUTH, false, page(3, 3, "02 00 00 00 06 01"), 3);
        fault(TRUTH, false, page(3, 3, "02 00 00 00 04 01"), 1, 19);
        fault(TRUTH, false, page(3, 3, "04 00 00 00 04 01 04 01"), 3, 19);
        ColumnPages x = sound(TRUTH, false, page(3, 3, "04 00 00 00 04 01 02 00"), 3);
        CHECK.due("value", x.value(0, 1), 1);
        CHECK.due("value", x.value(0, 2), 0);
        fault(TRUTH, false, page(3, 3, "02 00 00 00 06 02"), 4, 18);
        fault(TRUTH, false, page(3, 3, "01 00 00 00 06"), 1, 18);
        fault(TRUTH, false, page(3, 3, "03 00 00 00 05 01 01"), 3, 17);
        fault(TRUTH, false, page(8, 3, "03 00 00 00 05 01 01"), 3, 17);
        x = sound(TRUTH, false, page(9, 3, "03 00 00 00 05 01 ff"), 9);
        CHECK.due("value", x.value(0, 8), 1);
        fault(TRUTH, false, page(9, 3, "02 00 00 00 05 01"), 1, 19);
        x = sound(TRUTH, false, page(12, 3, "07 00 00 00 02 01 04 00 05 81 01"), 12);
        CHECK.due("value", x.value(0, 3), 1);
        CHECK.due("value", x.value(0, 4), 0);
        CHECK.due("value", x.value(0, 10), 1);
        fault(TRUTH, false, page(12, 3, "08 00 00 00 02 01 04 00 07 81 01 01 00"), 3, 21);
        fault(TRUTH, false, page(12, 3, "05 00 00 00 10 01 05 01 01"), 3, 19);
        fault(TRUTH, false, page(3, 3, "0b 00 00 00 fe ff ff ff ff ff ff ff ff 01 01"), 3, 17);
        fault(TRUTH, false, page(3, 3, "0b 00 00 00 ff ff ff ff ff ff ff ff ff 01 01"), 3, 17);
        fault(TRUTH, false, page(3, 3, "0a 00 00 00 ff ff ff ff ff ff ff ff ff 02"), 2, 26);
        fault(TRUTH, false, page(3, 3, "0a 00 00 00 86 80 80 80 80 80 80 80 80 00"), 1, 27);
        sound(TRUTH, false, page(3, 3, "0b 00 00 00 86 80 80 80 80 80 80 80 80 00 01"), 3);
        fault(TRUTH, false, page(3, 3, "06 00 00 00 86 80 80 80 80 20"), 3, 17);
    }

    private static void plainNumbers() {
        ColumnPages x = sound(INT, false, page(2, 0, "ff ff ff ff 00 00 00 80"), 2);
        CHECK.due("value", x.value(0, 0), -1);
        CHECK.due("value", x.value(0, 1), Integer.MIN_VALUE);
        x = sound(LONG, false, page(2, 0, "ff ff ff ff 00 00 00 00 00 00 00 00 00 00 00 80"), 2);
        CHECK.due("value", x.value(0, 0), 0xFFFFFFFFL);
        CHECK.due("value", x.value(0, 1), Long.MIN_VALUE);
        fault(INT, false, page(2, 0, "ff ff ff ff 00 00 00"), 1, 20);
        fault(LONG, false, page(1, 0, "ff ff ff ff 00 00 00"), 1, 20);
        fault(INT, false, page(1, 0, "ff ff ff ff 00"), 13, 17);
        CHECK.fault(of(INT, false, page(1, 0, "01 02 03") + page(0, 0, "")), 0, 1, 16, 0, 0);
    }

    private static void plainTexts() {
        ColumnPages x = sound(TEXT, false, page(2, 0, "02 00 00 00 61 ff 00 00 00 00"), 2);
        CHECK.due("letter", x.letter(0, 0, 1), 255);
        CHECK.due("length", x.value(0, 1), 0);
        fault(TEXT, false, page(1, 0, "02 00 00"), 1, 16);
        fault(TEXT, false, page(1, 0, "02 00 00 00 61"), 10, 13);
        fault(TEXT, false, page(2, 0, "01 00 00 00 61 02 00 00 00 61"), 10, 18);
        fault(TEXT, false, page(1, 0, "ff ff ff ff 61"), 10, 13);
        String forty = "01 02 03 04 05 06 07 08 09 0a 0b 0c 0d 0e 0f 10 11 12 13 14 "
            + "01 02 03 04 05 06 07 08 09 0a 0b 0c 0d 0e 0f 10 11 12 13 28";
        x = sound(TEXT, false, page(1, 0, "28 00 00 00 " + forty), 1);
        CHECK.due("letter", x.letter(0, 0, 39), 40);
        fault(TEXT, false, page(1, 0, "29 00 00 00 00 " + forty), 10, 13);
        fault(TEXT, false, page(1, 0, "01 00 00 00 61 00"), 13, 18);
        CHECK.fault(of(TEXT, false, page(1, 0, "02 00 00 00 61") + "15 00"), 0, 10, 13, 0, 0);
    }

    private static void plainTruths() {
        ColumnPages x = sound(TRUTH, false, page(3, 0, "fd"), 3);
        CHECK.due("value", x.value(0, 0), 1);
        CHECK.due("value", x.value(0, 1), 0);
        CHECK.due("unlike", x.told(0, 4), 2);
        sound(TRUTH, false, page(8, 0, "fd"), 8);
        fault(TRUTH, false, page(9, 0, "fd"), 1, 14);
        x = sound(TRUTH, false, page(9, 0, "fd fe"), 9);
        CHECK.due("value", x.value(0, 8), 0);
        fault(TRUTH, false, page(8, 0, "fd fe"), 13, 14);
        fault(TRUTH, false, page(0, 0, "fd"), 13, 13);
    }

    private static void differences() {
        ColumnPages x = sound(INT, false,
            page(8, 5, "80 01 04 08 0e 03 02 00 00 00 c0 3f ff ff ff ff ff ff"), 8);
        long[] values = {7, 5, 3, 1, 2, 3, 4, 5};
        for (int i = 0; i < 8; i++) {
            CHECK.due("value " + i, x.value(0, i), values[i]);
        }
        fault(INT, false, page(1, 5, ""), 1, 13);
        fault(INT, false, page(1, 5, "80"), 1, 14);
        fault(INT, false, page(1, 5, "81 01 04 01 00"), 5, 13);
        fault(INT, false, page(1, 5, "80 02"), 5, 13);
        fault(INT, false, page(1, 5, "81 01"), 5, 13);
        fault(INT, false, page(1, 5, "80 01"), 1, 15);
        fault(INT, false, page(1, 5, "80 01 03"), 5, 13);
        fault(INT, false, page(1, 5, "80 01 04"), 1, 16);
        fault(INT, false, page(1, 5, "80 01 04 02"), 5, 13);
        fault(INT, false, page(1, 5, "80 01 04 00"), 5, 13);
        fault(INT, false, page(1, 5, "80 01 04 01"), 1, 17);
        fault(INT, false, page(1, 5, "80 01 04 81 80 80 80 10 00"), 5, 13);
        sound(INT, false, page(1, 5, "80 81 80 00 84 00 81 00 00"), 1);
        fault(INT, true, page(1, 5, "02 00 00 00 03 01 80 01 03"), 5, 19);
        fault(INT, true, page(1, 5, "02 00 00 00 03 00 80 01 04 01"), 5, 19);
        fault(INT, false, page(1, 5, "80 01 04 01 00 00"), 13, 18);
        // ZIGS of INTS are cut to ints: 2 to the 32nd and 1 more, then a least difference of 2 to the 32nd
        x = sound(INT, false, page(2, 5, "80 01 04 02 82 80 80 80 20 80 80 80 80 20 00 00 00 00"), 2);
        CHECK.due("cut", x.value(0, 0), 1);
        CHECK.due("cut", x.value(0, 1), 1);
        x = sound(INT, false, page(2, 5, "80 01 04 02 fe ff ff ff 0f 02 00 00 00 00"), 2);
        CHECK.due("going round", x.value(0, 1), Integer.MIN_VALUE);
        fault(INT, false, page(2, 5, "80 01 04 02 00"), 1, 18);
        fault(INT, false, page(2, 5, "80 01 04 02 00 00"), 1, 19);
        fault(INT, false, page(2, 5, "80 01 04 02 00 00 01 00 00"), 1, 22);
        fault(INT, false, page(2, 5, "80 01 04 02 00 00 01 00 00 00 00 00 00"), 1, 26);
        x = sound(INT, false, page(2, 5, "80 01 04 02 00 00 01 00 00 00 ff ff ff ff"), 2);
        CHECK.due("value", x.value(0, 1), 1);
    }

    private static void differencesOfLongs() {
        ColumnPages x = sound(LONG, false,
            page(2, 5, "80 01 04 02 ff ff ff ff ff ff ff ff ff 01 01 00 00 00 00"), 2);
        CHECK.due("value", x.value(0, 0), Long.MIN_VALUE);
        CHECK.due("going round", x.value(0, 1), Long.MAX_VALUE);
        x = new ColumnPages();
        x.column(0, LONG, false);
        Check.numbers(x, 0, 0, Long.MIN_VALUE, -1, 5, Long.MAX_VALUE, 1L << 32, -1L << 33);
        x.write(0, 2, 200, false);
        x.column(1, LONG, false);
        CHECK.sound(x, 1, 7, 1, 0);
        CHECK.due("alike", x.alike(0, 1), 1);
    }

    private static void widths() {
        fault(INT, false, page(2, 5, "80 01 04 02 00 00 21"), 6, 19);
        fault(INT, false, page(2, 5, "80 01 04 02 00 00 20"), 1, 20);
        fault(INT, false, page(2, 5, "80 01 04 02 00 00 00 01"), 6, 20);
        fault(INT, false, page(2, 5, "80 01 04 02 00 00 00 00 00 01"), 6, 22);
        fault(LONG, false, page(2, 5, "80 01 04 02 00 00 41"), 6, 19);
        fault(LONG, false, page(2, 5, "80 01 04 02 00 00 40"), 1, 20);
        fault(LONG, false, page(2, 5, "80 01 04 02 00 00 40 ff"), 6, 20);
        // 33 numbers have 32 differences: one part; 34 have two
        fault(INT, false, page(33, 5, "80 01 04 21 00 00 00 01"), 6, 20);
        fault(INT, false, page(34, 5, "80 01 04 22 00 00 00 01 01"), 6, 21);
        fault(INT, false, page(34, 5, "80 01 04 22 00 00 00 01 00 00 01 00 00"), 1, 26);
        ColumnPages x = sound(INT, false, page(34, 5, "80 01 04 22 00 00 00 01 00 00 ff ff ff ff"), 34);
        CHECK.due("value", x.value(0, 32), 0);
        CHECK.due("value", x.value(0, 33), 1);
        // a second block begins with the 130th number
        fault(INT, false, "15 00 15 24 15 24 2c 15 84 02 15 0a 00 00 80 01 04 82 01 00 02 00 00 00 00 02 00 01 00 00 "
            + "00 00", 6, 27);
        x = of(INT, false, "15 00 15 28 15 28 2c 15 84 02 15 0a 00 00 80 01 04 82 01 00 02 00 00 00 00 04 01 00 00 00 "
            + "01 00 00 00");
        CHECK.sound(x, 0, 130, 1, 0);
        CHECK.due("value", x.value(0, 128), 128);
        CHECK.due("value", x.value(0, 129), 131);
        fault(TEXT, false, page(2, 6, "80 01 04 02 00 00 21"), 6, 19);
    }

    private static void lengths() {
        ColumnPages x = sound(TEXT, false,
            page(3, 6, "80 01 04 03 04 03 02 00 00 00 0c 00 00 00 00 00 00 00 61 62 63"), 3);
        CHECK.due("length", x.value(0, 0), 2);
        CHECK.due("length", x.value(0, 1), 0);
        CHECK.due("letter", x.letter(0, 2, 0), 'c');
        fault(TEXT, false, page(1, 6, "80 01 04 01 01"), 10, 18);
        fault(TEXT, false, page(1, 6, "80 01 04 01 52"), 10, 18);
        fault(TEXT, false, page(1, 6, "80 01 04 01 02"), 10, 18);
        fault(TEXT, false, page(1, 6, "80 01 04 01 04 61"), 10, 18);
        fault(TEXT, false, page(1, 6, "80 01 04 01 02 61 62"), 13, 19);
        fault(TEXT, false, page(2, 6, "80 01 04 02 02 02 00 00 00 00 61 61"), 10, 23);
        fault(TEXT, false, page(2, 6, "80 01 04 02 02 03 00 00 00 00 61"), 10, 23);
        sound(TEXT, false, page(2, 6, "80 01 04 02 02 01 00 00 00 00 61"), 2);
        fault(TEXT, false, page(1, 6, "80 01 04 02"), 5, 13);
        sound(TEXT, true, page(1, 6, "02 00 00 00 03 00 80 01 04 00 00"), 1);
        // lengths as of INTS: 2 to the 32nd is 0
        sound(TEXT, false, page(1, 6, "80 01 04 01 80 80 80 80 20"), 1);
    }

    private static void truthRuns() {
        fault(TRUTH, false, page(3, 3, "02 00 00"), 1, 16);
        fault(TRUTH, false, page(3, 3, "03 00 00 00 06 01"), 10, 13);
        fault(TRUTH, false, page(3, 3, "ff ff ff ff 06 01"), 10, 13);
        fault(TRUTH, false, page(3, 3, "03 00 00 00 06 01 00"), 13, 19);
        fault(TRUTH, false, page(3, 3, "02 00 00 00 06 01 00"), 13, 19);
        fault(TRUTH, true, page(3, 3, "02 00 00 00 06 01 03 00 00 00 06 01"), 10, 19);
        sound(TRUTH, true, page(3, 3, "02 00 00 00 06 00 00 00 00 00"), 3);
    }

    private static void places() {
        ColumnPages x = of(INT, false, FIVE_SEVEN + page(3, 8, "01 03 04"));
        CHECK.sound(x, 0, 3, 2, 2);
        CHECK.due("value", x.value(0, 0), 5);
        CHECK.due("value", x.value(0, 2), 7);
        CHECK.fault(of(INT, false, FIVE_SEVEN + page(3, 8, "")), 0, 1, 34, 1, 2);
        CHECK.fault(of(INT, false, FIVE_SEVEN + page(3, 8, "21 06 00 00 00 00")), 0, 11, 34, 1, 2);
        CHECK.fault(of(INT, false, FIVE_SEVEN + page(3, 8, "20 06 02 00 00 00")), 0, 12, 35, 1, 2);
        CHECK.fault(of(INT, false, FIVE_SEVEN + page(3, 8, "20 06 ff ff ff ff")), 0, 12, 35, 1, 2);
        CHECK.sound(of(INT, false, FIVE_SEVEN + page(3, 8, "20 06 01 00 00 00")), 0, 3, 2, 2);
        CHECK.fault(of(INT, false, FIVE_SEVEN + page(3, 8, "20 06 01 00 00")), 0, 1, 39, 1, 2);
        CHECK.fault(of(INT, false, FIVE_SEVEN + page(3, 8, "1f 06 01 00 00 80")), 0, 4, 36, 1, 2);
        CHECK.fault(of(INT, false, FIVE_SEVEN + page(3, 8, "09 06 00 02")), 0, 4, 36, 1, 2);
        CHECK.fault(of(INT, false, FIVE_SEVEN + page(3, 8, "09 06 00 01")), 0, 12, 35, 1, 2);
        CHECK.sound(of(INT, false, FIVE_SEVEN + page(3, 8, "02 03 c4 ff")), 0, 3, 2, 2);
    }

    private static void dictionaries() {
        CHECK.sound(of(INT, false, FIVE_SEVEN), 0, 0, 1, 2);
        CHECK.fault(of(INT, false, "15 04 15 0e 15 0e 4c 15 04 15 00 00 00 05 00 00 00 07 00 00"), 0, 1, 20, 0, 0);
        CHECK.fault(of(INT, false, "15 04 15 12 15 12 4c 15 04 15 00 00 00 05 00 00 00 07 00 00 00 09"), 0, 13, 21, 0, 2);
        ColumnPages x = of(INT, false, FIVE_SEVEN);
        CHECK.sound(x, 0, 0, 1, 2);
        Check.file(x, page(1, 8, "00 02"));
        CHECK.fault(x, 0, 8, 10, 0, 0);
        x = of(TEXT, true, "15 04 15 14 15 14 4c 15 04 15 00 00 00 01 00 00 00 61 01 00 00 00 62 "
            + page(3, 8, "02 00 00 00 03 05 01 03 01"));
        CHECK.sound(x, 0, 3, 2, 2);
        CHECK.due("letter", x.letter(0, 0, 0), 'b');
        CHECK.due("absent", x.has(0, 1), 0);
        CHECK.due("letter", x.letter(0, 2, 0), 'a');
        x = of(LONG, false, "15 04 15 20 15 20 4c 15 04 15 00 00 00 01 00 00 00 00 00 00 80 01 00 00 00 00 00 00 80 "
            + page(1, 8, "01 02 01") + page(1, 0, "02 00 00 00 00 00 00 00"));
        CHECK.sound(x, 0, 2, 3, 2);
        CHECK.due("value", x.value(0, 0), Long.MIN_VALUE + 1);
        CHECK.due("value", x.value(0, 1), 2);
        String none = "15 04 15 00 15 00 4c 15 00 15 00 00 00 ";
        CHECK.sound(of(INT, true, none + page(2, 8, "02 00 00 00 03 00 00")), 0, 2, 2, 0);
        CHECK.fault(of(INT, false, none + page(1, 8, "00 02")), 0, 12, 27, 1, 0);
    }

    private static void leftOver() {
        CHECK.fault(of(INT, false, page(1, 0, "01 00 00 00 00") + "15"), 0, 13, 17, 0, 0);
        CHECK.fault(of(INT, false, FIVE_SEVEN + page(1, 8, "00 02 00")), 0, 13, 36, 1, 2);
    }

    private static void roundTrips() {
        for (int kind = INT; kind <= TRUTH; kind++) {
            ColumnPages x = new ColumnPages();
            x.column(0, kind, true);
            for (int i = 0; i < 20; i++) {
                if (i % 7 == 3) {
                    x.addNone(0);
                } else if (kind == TEXT) {
                    Check.text(x, 0, "text number " + i * i % 5);
                } else {
                    x.add(0, i * i % 5 - 2L);
                }
            }
            x.repeat(0, 20, 7);
            x.column(1, kind, true);
            for (int way = 0; way < 3; way++) {
                for (int q = 9; q < 200 && !(way == 1 && kind == TRUTH); q += 45) {
                    x.write(0, way, q, false);
                    CHECK.sound(x, 1, 140, (139 + q) / q + (way == 1 ? 1 : 0), way == 1 ? x.told(0, 4) : 0);
                    CHECK.due("alike", x.alike(0, 1), 1);
                }
            }
        }
    }
}
