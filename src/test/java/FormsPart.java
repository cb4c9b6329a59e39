import java.util.Arrays;

/** "Terms", 2 FORMS OF NUMBERS: VAR, ZIG, RUNS, DIFFERENCES, written and read. */
final class FormsPart extends Part {
    private static final String LEAD = "80 01 04 ";
    private static final String NINE = Hex.repeated("80", 9);

    FormsPart(Check check, Document document) {
        super(check, document);
    }

    @Override
    void holds() {
        packedFromTheLowestBit();
        varsWritten();
        varsInOtherPlaces();
        varsRead();
        varsTooWide();
        varsTooWideAnywhere();
        zigs();
        runsUntilThereAreN();
        runOfANumber();
        runOfGroups();
        beyondN();
        noNumberInARun();
        moreThanAreLeft();
        groupsBeyondN();
        wrongRunsAheadOfAll();
        bitsBeyond();
        eightAlikeWritten();
        groupsWritten();
        groupsUpToAlikeOnes();
        zerosBeyondN();
        differencesBegin();
        withoutAnyNumber();
        blocksOf128();
        leastDifference();
        goingRound();
        widthsOfInts();
        widthsOfLongs();
        lessThatLeastOne();
        partsThatAreNotThere();
        wrongBegins();
        wrongWidths();
        wrongWidthsOfPartsThatAreNotThere();
        widthsOneByOne();
        beyondTheLastOne();
        cutToInts();
    }

    private void packedFromTheLowestBit() {
        says("Terms 2", "==== 2 FORMS OF NUMBERS, lowest byte first, packed from the lowest bit of the first byte on.");
        truths(false, "100000011");
        writtenBody(PLAIN, 9, 0, "81 01");
        numbers(INT, false, 0x04030201);
        writtenBody(PLAIN, 1, 0, "01 02 03 04");
        numbers(LONG, false, 0x0807060504030201L);
        writtenBody(PLAIN, 1, 0, "01 02 03 04 05 06 07 08");
        numbers(INT, false, 0, 1, 2, 3, 4);
        x.write(0, DICTIONARY, 200, false);
        is(x.hex(33, x.size()), Hex.plain(Hex.page(5, 8, "03 03 88 46 00")));
        due("a test's own packing", Hex.plain(Hex.packed(3, 8, 0, 1, 2, 3, 4)), "88 46 00");
    }

    // ---- VAR and ZIG

    private void zigAs(long v, String hex) {
        numbers(LONG, false, v);
        writtenBody(PACKED, 1, 5, LEAD + "01 " + hex);
        sound(LONG, false, Hex.page(1, 5, LEAD + "01 " + hex), 1);
        hasNumbers(0, v);
    }

    private void varsWritten() {
        says("Terms 2, VAR", "VAR v (64 bits, without sign): seven bits a byte, the lowest first, 128 more on each byte but "
            + "the last.");
        zigAs(0, "00");
        for (int bytes = 1; bytes <= 9; bytes++) {
            long half = 1L << 7 * bytes - 1;
            zigAs(half - 1, bytes == 1 ? "7e" : "fe " + Hex.repeated("ff", bytes - 2) + "7f");
            zigAs(-half, Hex.repeated("ff", bytes - 1) + "7f");
            zigAs(half, Hex.repeated("80", bytes) + "01");
            zigAs(-half - 1, "81 " + Hex.repeated("80", bytes - 1) + "01");
        }
        zigAs(Long.MAX_VALUE, "fe " + Hex.repeated("ff", 8) + "01");
        zigAs(Long.MIN_VALUE, Hex.repeated("ff", 9) + "01");
        zigAs(0x0102030405060708L, "90 9c b0 d0 80 c1 81 82 02");
    }

    private void varsInOtherPlaces() {
        numbers(INT, false, 3);
        x.repeat(0, 1, 127);
        writtenBody(PACKED, 127, 5, LEAD + "7f 06 00 00 00 00 00");
        numbers(INT, false, 3);
        x.repeat(0, 1, 128);
        writtenBody(PACKED, 128, 5, LEAD + "80 01 06 00 00 00 00 00");
        numbers(TRUTH, false, 1);
        x.repeat(0, 1, 63);
        written(PACKED, 200, "15 00 15 0c 15 0c 2c 15 7e 15 06 00 00 | 02 00 00 00 7e 01");
        numbers(TRUTH, false, 1);
        x.repeat(0, 1, 64);
        written(PACKED, 200, "15 00 15 0e 15 0e 2c 15 80 01 15 06 00 00 | 03 00 00 00 80 01 01");
        numbers(INT, false, 0);
        x.repeat(0, 1, 15);
        written(PLAIN, 200, "15 00 15 78 15 78 2c 15 1e 15 00 00 00 " + Hex.repeated("00", 60));
        numbers(INT, false, 0);
        x.repeat(0, 1, 16);
        written(PLAIN, 200, "15 00 15 80 01 15 80 01 2c 15 20 15 00 00 00 " + Hex.repeated("00", 64));
    }

    private void varsRead() {
        says("Terms 2, VAR", "READ: up to ten bytes;");
        long[] values = {0, -1, 1, 63, -64, -65};
        for (int i = 0; i < values.length; i++) {
            long v = values[i];
            int low = (int) (v < 0 ? -2 * v - 1 : 2 * v);
            for (int bytes = 2; bytes <= 10; bytes++) {
                String var = Hex.byteOf(low & 127 | 128) + " "
                    + (bytes == 2 ? Hex.byteOf(low >> 7)
                        : Hex.byteOf(low >> 7 | 128) + " " + Hex.repeated("80", bytes - 3) + "00");
                sound(LONG, false, Hex.page(1, 5, LEAD + "01 " + var), 1);
                hasNumbers(0, v);
            }
        }
        sound(INT, false, "15 80 80 00 15 80 00 15 80 80 80 00 2c 15 80 00 15 " + NINE + "00 00 00", 0);
    }

    private void varsTooWide() {
        says("Terms 2, VAR", "FAULT 2 (at the tenth), if that is above 1.");
        for (String tenth : new String[] {"02", "03", "04", "7f", "80", "81", "ff"}) {
            fault(LONG, false, Hex.page(1, 5, LEAD + "01 " + NINE + tenth), 2, 26);
            fault(LONG, false, Hex.page(1, 5, LEAD + "01 " + NINE + tenth + " 00 00"), 2, 26);
        }
        fault(LONG, false, Hex.page(1, 5, LEAD + "01 " + NINE), 1, 26);
        sound(LONG, false, Hex.page(1, 5, LEAD + "01 " + NINE + "00"), 1);
        hasNumbers(0, 0);
        sound(LONG, false, Hex.page(1, 5, LEAD + "01 " + NINE + "01"), 1);
        hasNumbers(0, 1L << 62);
        fault(LONG, false, Hex.page(1, 5, LEAD + "01 " + NINE + "01 00"), 13, 27);
    }

    private void varsTooWideAnywhere() {
        fault(INT, false, "15 " + NINE + "02", 2, 10);
        fault(INT, false, "15 " + NINE + "01", 8, 1);
        fault(INT, false, "15 00 15 " + NINE + "02", 2, 12);
        fault(INT, false, "15 00 15 00 15 " + NINE + "02", 2, 14);
        fault(INT, false, "15 00 15 00 15 00 2c 15 " + NINE + "02", 2, 17);
        fault(INT, false, "15 00 15 00 15 00 2c 15 00 15 " + NINE + "02", 2, 19);
        fault(INT, false, "15 04 15 00 15 00 4c 15 " + NINE + "02", 2, 17);
        fault(INT, false, "15 04 15 00 15 00 4c 15 00 15 " + NINE + "02", 2, 19);
        fault(TRUTH, false, Hex.page(3, 3, "0b 00 00 00 " + NINE + "02 01"), 2, 26);
        fault(INT, true, Hex.page(3, 0, "0b 00 00 00 " + NINE + "02 01"), 2, 26);
        fault(INT, false, FIVE_SEVEN + Hex.page(3, 8, "01 " + NINE + "02 01"), 2, 44, 1, 2);
        fault(INT, false, Hex.page(1, 5, NINE + "02"), 2, 22);
        fault(INT, false, Hex.page(1, 5, "80 01 " + NINE + "02"), 2, 24);
        fault(INT, false, Hex.page(1, 5, LEAD + NINE + "02"), 2, 25);
        fault(INT, false, Hex.page(2, 5, LEAD + "02 00 " + NINE + "02"), 2, 27);
        fault(TEXT, false, Hex.page(1, 6, LEAD + "01 " + NINE + "02"), 2, 26);
    }

    private void zigs() {
        says("Terms 2, ZIG", "ZIG v: VAR of 2 v, of v below 0 of - 2 v - 1.");
        zigAs(0, "00");
        zigAs(-1, "01");
        zigAs(1, "02");
        zigAs(-2, "03");
        zigAs(2, "04");
        zigAs(SMALLEST, "ff ff ff ff 0f");
        zigAs(GREATEST, "fe ff ff ff 0f");
        numbers(INT, false, SMALLEST);
        writtenBody(PACKED, 1, 5, LEAD + "01 ff ff ff ff 0f");
        numbers(INT, false, GREATEST);
        writtenBody(PACKED, 1, 5, LEAD + "01 fe ff ff ff 0f");
    }

    // ---- RUNS

    /** A CODE 3 page of RUNS of one bit: these begin at byte 17. */
    private static String bits(int many, String runs) {
        return Hex.page(many, 3, Hex.fourBytes(Hex.length(runs)) + runs);
    }

    private void soundBits(int many, String runs, long... truths) {
        sound(TRUTH, false, bits(many, runs), many);
        for (int i = 0; i < truths.length; i++) {
            is(x.value(0, i), truths[i]);
        }
    }

    /** Behind a dictionary of the INTS 5 and 7 a page of CODE 8: its w stands at byte 34, its RUNS begin at 35. */
    private static String places(int many, String widthAndRuns) {
        return FIVE_SEVEN + Hex.page(many, 8, widthAndRuns);
    }

    private void soundPlaces(String widthAndRuns, long... values) {
        sound(INT, false, places(values.length, widthAndRuns), values.length, 2, 2);
        hasNumbers(0, values);
    }

    private void faultOfPlaces(int many, String widthAndRuns, int fault, int place) {
        fault(INT, false, places(many, widthAndRuns), fault, place, 1, 2);
    }

    private void runsUntilThereAreN() {
        says("Terms 2, RUNS", "RUNS of n numbers of w bits: one run behind the other until there are n.");
        soundBits(0, "");
        fault(TRUTH, false, bits(0, "00"), 13, 17);
        fault(TRUTH, false, bits(0, "02 01"), 13, 17);
        soundBits(1, "02 01", 1);
        soundBits(3, "02 01 02 00 02 01", 1, 0, 1);
        fault(TRUTH, false, bits(3, "02 01 02 00"), 1, 21);
        fault(TRUTH, false, bits(3, "02 01 02 00 02 01 02 01"), 13, 23);
        soundBits(12, "02 01 04 00 05 81 01", 1, 0, 0, 1, 0, 0, 0, 0, 0, 0, 1, 1);
        soundBits(17, "03 55 10 00 02 01", 1, 0, 1, 0, 1, 0, 1, 0, 0, 0, 0, 0, 0, 0, 0, 0, 1);
        StringBuilder ones = new StringBuilder();
        for (int i = 0; i < MOST_VALUES; i++) {
            ones.append("02 0").append(i % 2).append(' ');
        }
        sound(TRUTH, false, Hex.page(200, 3, Hex.fourBytes(400) + ones), 200);
        is(x.value(0, 198), 0);
        is(x.value(0, 199), 1);
        soundPlaces("00");
        numbers(TRUTH, true);
        x.addNone(0);
        writtenBody(PACKED, 1, 3, "02 00 00 00 03 00 | 00 00 00 00");
    }

    private void runOfANumber() {
        says("Terms 2, RUNS", "A run: VAR h; h even: h / 2 times the number that stands behind it in w / 8 bytes (rounded up);");
        soundPlaces("00 06", 5, 5, 5);
        int[] widths = {1, 7, 8, 9, 15, 16, 17, 23, 24, 25, 31, 32};
        int[] bytes = {1, 1, 1, 2, 2, 2, 3, 3, 3, 4, 4, 4};
        for (int i = 0; i < widths.length; i++) {
            String run = Hex.byteOf(widths[i]) + " 06 01 " + Hex.repeated("00", bytes[i] - 1);
            soundPlaces(run, 7, 7, 7);
            faultOfPlaces(3, run + "00", 13, 36 + bytes[i]);
            faultOfPlaces(3, run.trim().substring(0, 3 * bytes[i] + 2), 1, 35 + bytes[i]);
            if (bytes[i] > 1) {
                faultOfPlaces(3, Hex.byteOf(widths[i]) + " 06 " + Hex.repeated("00", bytes[i] - 1) + " 01", 12, 35);
            }
        }
        soundPlaces("10 04 01 00 02 00 00", 7, 7, 5);
        numbers(INT, false, 4);
        x.repeat(0, 1, 9);
        written(DICTIONARY, 200, Hex.dictionary(1, "04 00 00 00") + Hex.page(9, 8, "00 12"));
        numbers(INT, false, 4);
        x.repeat(0, 1, 9);
        x.add(0, 5);
        written(DICTIONARY, 200, Hex.dictionary(2, "04 00 00 00 05 00 00 00") + Hex.page(10, 8, "01 12 00 03 01"));
    }

    private void runOfGroups() {
        says("Terms 2, RUNS", "h odd: (h - 1) / 2 groups of eight numbers, w bits each;");
        soundBits(8, "03 a5", 1, 0, 1, 0, 0, 1, 0, 1);
        soundBits(16, "05 01 80", 1, 0, 0, 0, 0, 0, 0, 0, 0, 0, 0, 0, 0, 0, 0, 1);
        soundBits(16, "03 01 03 80", 1, 0, 0, 0, 0, 0, 0, 0, 0, 0, 0, 0, 0, 0, 0, 1);
        fault(TRUTH, false, bits(16, "05 01"), 1, 19);
        fault(TRUTH, false, bits(8, "03"), 1, 18);
        soundPlaces("00 03", 5, 5, 5);
        for (int width = 1; width <= 32; width++) {
            String group = Hex.byteOf(width) + " 03 " + Hex.packed(width, 8, 1, 0, 1, 0, 0, 0, 0, 1);
            soundPlaces(group, 7, 5, 7, 5, 5, 5, 5, 7);
            faultOfPlaces(8, group + "00", 13, 36 + width);
            faultOfPlaces(8, group.substring(0, group.length() - 3), 1, 35 + width);
        }
        long[] places = {0, 1, 2, 3, 4, 5, 6, 7};
        sound(INT, false, Hex.dictionary(8, allInts(8)) + Hex.page(8, 8, "03 03 " + Hex.packed(3, 8, places)), 8, 2, 8);
        hasNumbers(0, places);
    }

    private static String allInts(int many) {
        StringBuilder text = new StringBuilder();
        for (int i = 0; i < many; i++) {
            text.append(Hex.fourBytes(i));
        }
        return text.toString();
    }

    private void beyondN() {
        says("Terms 2, RUNS", "what a last group has beyond n does not count.");
        soundBits(1, "03 ff", 1);
        soundBits(1, "03 fe", 0);
        soundBits(7, "03 fe", 0, 1, 1, 1, 1, 1, 1);
        soundBits(9, "05 ff fe", 1, 1, 1, 1, 1, 1, 1, 1, 0);
        soundPlaces("02 03 c4 ff", 5, 7, 5);
        soundPlaces("08 03 01 02 03 04 05 06 07 08", 7);
        faultOfPlaces(2, "08 03 01 02 03 04 05 06 07 08", 12, 35);
        faultOfPlaces(1, "08 03 01 02 03 04 05 06 07", 1, 43);
        sound(INT, true, Hex.page(2, 0, "02 00 00 00 03 fd 06 00 00 00"), 2);
        is(x.told(0, 3), 1);
    }

    private void noNumberInARun() {
        says("Terms 2, RUNS", "READ: FAULT 3 (at h, when it was read): no number, or no group, in it;");
        fault(TRUTH, false, bits(3, "00 01"), 3, 17);
        fault(TRUTH, false, bits(3, "01 01"), 3, 17);
        fault(TRUTH, false, bits(3, "00"), 3, 17);
        fault(TRUTH, false, bits(3, "80 80 00"), 3, 17);
        fault(TRUTH, false, bits(3, "81 00"), 3, 17);
        fault(TRUTH, false, bits(3, "02 01 00 01"), 3, 19);
        fault(TRUTH, false, bits(3, "02 01 01 01"), 3, 19);
        fault(TRUTH, false, bits(3, "80 80"), 1, 19);
        faultOfPlaces(3, "00 00", 3, 35);
        faultOfPlaces(3, "00 01", 3, 35);
    }

    private void moreThanAreLeft() {
        says("Terms 2, RUNS", "of a number more than are left;");
        for (int many = 1; many <= 70; many++) {
            soundBits(many, Hex.var(2L * many) + "01");
            fault(TRUTH, false, bits(many, Hex.var(2L * many + 2) + "01"), 3, many < 64 ? 17 : 18);
        }
        soundBits(3, "02 01 04 00");
        fault(TRUTH, false, bits(3, "02 01 06 00"), 3, 19);
        soundBits(12, "03 ff 08 01");
        fault(TRUTH, false, bits(12, "03 ff 0a 01"), 3, 19);
        fault(TRUTH, false, bits(3, "fe " + Hex.repeated("ff", 8) + "01 01"), 3, 17);
        fault(TRUTH, false, bits(3, "86 80 80 80 20 01"), 3, 17);
        fault(TRUTH, false, bits(3, "86 80 80 80 10 01"), 3, 17);
    }

    private void groupsBeyondN() {
        says("Terms 2, RUNS", "of groups eight or more numbers beyond n.");
        for (int many = 1; many <= 40; many++) {
            int groups = (many + 7) / 8;
            soundBits(many, Hex.var(2L * groups + 1) + Hex.repeated("ff", groups));
            fault(TRUTH, false, bits(many, Hex.var(2L * groups + 3) + Hex.repeated("ff", groups + 1)), 3, 17);
        }
        soundBits(10, "02 01 05 ff ff");
        fault(TRUTH, false, bits(9, "02 01 05 ff ff"), 3, 19);
        fault(TRUTH, false, bits(12, "02 01 04 00 07 81 01 01"), 3, 21);
        fault(TRUTH, false, bits(3, Hex.repeated("ff", 9) + "01 01"), 3, 17);
        fault(TRUTH, false, bits(3, "83 80 80 80 20 01"), 3, 17);
        fault(TRUTH, false, bits(3, "83 80 80 80 02 01"), 3, 17);
    }

    /** When h was read: ahead of what stands behind it. */
    private void wrongRunsAheadOfAll() {
        fault(TRUTH, false, bits(3, "08"), 3, 17);
        fault(TRUTH, false, bits(3, "05"), 3, 17);
        fault(TRUTH, false, bits(3, "08 02"), 3, 17);
        fault(TRUTH, false, bits(3, "02 02 00"), 4, 18);
        faultOfPlaces(3, "01 08 02", 3, 35);
    }

    private void bitsBeyond() {
        says("Terms 2, RUNS", "FAULT 4 (at the number, when its bytes were read): it has bits beyond w.");
        fault(TRUTH, false, bits(3, "06 02"), 4, 18);
        fault(TRUTH, false, bits(3, "06 80"), 4, 18);
        fault(TRUTH, false, bits(3, "06 03"), 4, 18);
        fault(TRUTH, false, bits(3, "86 80 00 02"), 4, 20);
        fault(TRUTH, false, bits(3, "04 01 02 02"), 4, 20);
        fault(INT, true, Hex.page(3, 0, "02 00 00 00 06 02"), 4, 18);
        for (int width = 1; width <= 32; width++) {
            int bytes = (width + 7) / 8;
            long beyond = 1L << width;
            String lead = Hex.byteOf(width) + " 06 ";
            if (width == 1) {
                soundPlaces(lead + little(beyond - 1, bytes), 7, 7, 7);
            } else {
                faultOfPlaces(3, lead + little(beyond - 1, bytes), 12, 35);
            }
            if (width % 8 != 0) {
                faultOfPlaces(3, lead + little(beyond, bytes), 4, 36);
                faultOfPlaces(3, lead + little(1L << 8 * bytes - 1, bytes), 4, 36);
                faultOfPlaces(3, lead + little(beyond, bytes).substring(0, 3 * bytes - 3), 1, 35 + bytes);
            }
        }
        soundPlaces("01 06 01", 7, 7, 7);
    }

    private static String little(long v, int bytes) {
        StringBuilder text = new StringBuilder();
        for (int i = 0; i < bytes; i++) {
            text.append(Hex.byteOf((int) (v >>> 8 * i & 255))).append(' ');
        }
        return text.toString();
    }

    // ---- RUNS written

    private void runsOf(String truths, String runs) {
        truths(false, truths);
        writtenBody(PACKED, truths.length(), 3, Hex.fourBytes(Hex.length(runs)) + runs);
        x.column(1, TRUTH, false);
        is(x.read(1), truths.length());
        is(x.alike(0, 1), 1);
    }

    private void eightAlikeWritten() {
        says("Terms 2, RUNS", "WRITTEN: from the left; where eight or more of those that are next are alike, a run of all these;");
        runsOf("11111111", "10 01");
        runsOf("00000000", "10 00");
        runsOf("111111111", "12 01");
        runsOf("1".repeat(15), "1e 01");
        runsOf("1".repeat(16), "20 01");
        runsOf("1".repeat(17), "22 01");
        runsOf("0".repeat(200), "90 03 00");
        runsOf("1111111100000000", "10 01 10 00");
        runsOf("111111110000000000", "10 01 14 00");
        runsOf("111111110000000", "10 01 03 00");
        runsOf("1111111111100000000", "16 01 10 00");
    }

    private void groupsWritten() {
        says("Terms 2, RUNS", "else groups, up to the first place a whole number of groups further on where eight or more are "
            + "alike, or to the end (0s beyond n).");
        runsOf("1", "03 01");
        runsOf("0", "03 00");
        runsOf("1111111", "03 7f");
        runsOf("0000000", "03 00");
        runsOf("10101010", "03 55");
        runsOf("101010101", "05 55 01");
        runsOf("1010101010101010", "05 55 55");
        runsOf("10".repeat(100), "33 " + Hex.repeated("55", 25));
        runsOf("10".repeat(99), "33 " + Hex.repeated("55", 24) + "15");
    }

    private void groupsUpToAlikeOnes() {
        // alike ones that begin elsewhere than a whole number of groups further on
        runsOf("011111111", "05 fe 01");
        runsOf("101111111", "05 fd 01");
        runsOf("1011111111", "05 fd 03");
        runsOf("1101111111", "05 fb 03");
        runsOf("1111111011", "05 7f 03");
        runsOf("11111110", "03 7f");
        runsOf("1010101011111111111111111", "03 55 22 01");
        runsOf("10101010" + "1011111111", "07 55 fd 03");
        runsOf("0111111111111111", "03 fe 10 01");
        runsOf("011111111111111", "05 fe 7f");
        runsOf("0000000111111111", "03 80 10 01");
        runsOf("00000001" + "11111111" + "0", "03 80 10 01 03 00");
        runsOf("1000000011111111", "03 01 10 01");
        runsOf("1000000011111110", "05 01 7f");
        runsOf("100000001111111", "05 01 7f");
        runsOf("10000000" + "01111111" + "11111111", "05 01 fe 10 01");
        runsOf("10000000" + "11111110" + "00000000", "05 01 7f 10 00");
        runsOf("10000000" + "111111111" + "0000000", "03 01 12 01 03 00");
        // behind a run of nine the groups begin at the tenth number
        runsOf("111111111" + "01010101" + "11111111", "12 01 03 aa 10 01");
        runsOf("111111111" + "0101010" + "11111111", "12 01 05 aa 7f");
        runsOf("1111111110000000010", "12 01 10 00 03 01");
        // of wider numbers: of two values of which the first has the place 0
        numbers(INT, false, 5, 6, 7, 6, 6, 6, 6, 6, 6, 6, 6, 6, 6, 6, 6, 6);
        written(DICTIONARY, 200, Hex.dictionary(3, "05 00 00 00 06 00 00 00 07 00 00 00")
            + Hex.page(16, 8, "02 03 " + Hex.packed(2, 8, 0, 1, 2, 1, 1, 1, 1, 1) + "10 01"));
    }

    private void zerosBeyondN() {
        runsOf("11", "03 03");
        runsOf("1111111101", "10 01 03 02");
        runsOf("0111111110111", "05 fe 1d");
        numbers(INT, false, 5, 6, 7, 7);
        written(DICTIONARY, 200, Hex.dictionary(3, "05 00 00 00 06 00 00 00 07 00 00 00") + Hex.page(4, 8, "02 03 a4 00"));
    }

    // ---- DIFFERENCES

    private void differencesBegin() {
        says("Terms 2, DIFFERENCES", "DIFFERENCES of n numbers of an INT, LONG: VAR 128, VAR 4, VAR n, ZIG of the first one");
        for (int kind = INT; kind <= LONG; kind++) {
            numbers(kind, false, -3);
            writtenBody(PACKED, 1, 5, "80 01 | 04 | 01 | 05");
            sound(kind, false, Hex.page(1, 5, "80 01 04 01 05"), 1);
            hasNumbers(0, -3);
            numbers(kind, false, 7, 5, 3, 1, 2, 3, 4, 5);
            writtenBody(PACKED, 8, 5, "80 01 | 04 | 08 | 0e | 03 | 02 00 00 00 | c0 3f 00 00 00 00 00 00");
            numbers(kind, false, 1, 4, 3, 5);
            writtenBody(PACKED, 4, 5, "80 01 | 04 | 04 | 02 | 01 | 03 00 00 00 | c4 00 00 00 00 00 00 00 00 00 00 00");
        }
    }

    private void withoutAnyNumber() {
        says("Terms 2, DIFFERENCES", "(0 without any).");
        for (int kind = INT; kind <= TEXT; kind++) {
            int code = kind == TEXT ? 6 : 5;
            numbers(kind, true);
            x.addNone(0);
            writtenBody(PACKED, 1, code, "02 00 00 00 03 00 | 80 01 04 00 00");
            sound(kind, true, Hex.page(1, code, "02 00 00 00 03 00 | 80 01 04 00 00"), 1);
            is(x.has(0, 0), 0);
            sound(kind, false, Hex.page(0, code, "80 01 04 00 00"), 0);
            sound(kind, false, Hex.page(0, code, "80 01 04 00 07"), 0);
            fault(kind, false, Hex.page(0, code, "80 01 04 00"), 1, 17);
            fault(kind, false, Hex.page(0, code, "80 01 04 00 00 00"), 13, 18);
            fault(kind, false, Hex.page(0, code, "80 01 04 01 00"), 5, 13);
            // behind a page that has numbers
            numbers(kind, true, 5);
            x.text(0, kind == TEXT ? "a" : "");
            x.addNone(0);
            x.addNone(0);
            String first = kind == TEXT ? "02 | 61" : "0a";
            written(PACKED, 1, Hex.page(1, code, "02 00 00 00 03 01 | 80 01 04 01 " + first)
                + Hex.repeated(Hex.page(1, code, "02 00 00 00 03 00 | 80 01 04 00 00"), 2));
            x.column(1, kind, true);
            is(x.read(1), 3);
            is(x.alike(0, 1), 1);
        }
    }

    /** Numbers each 1 more than the one before, but the last one 2 more: how many parts there are can be seen. */
    private static String steps(int many) {
        StringBuilder text = new StringBuilder(LEAD + Hex.var(many) + "00 ");
        for (int from = 1; from < many; from += 128) {
            int last = many - 1 - from;
            if (last == 0) {
                text.append("04 00 00 00 00 ");
            } else if (last >= 128) {
                text.append("02 00 00 00 00 ");
            } else {
                text.append("02 ");
                for (int part = 0; part < 4; part++) {
                    text.append(part == last / 32 ? "01 " : "00 ");
                }
                text.append(Hex.fourBytes(1 << last % 32));
            }
        }
        return text.toString();
    }

    private void blocksOf128() {
        says("Terms 2, DIFFERENCES", "Then, for each 128 (the last time perhaps fewer) of the others:");
        for (int many = 2; many <= 200; many++) {
            for (int kind = INT; kind <= LONG; kind++) {
                numbers(kind, false);
                for (int i = 0; i < many; i++) {
                    x.add(0, i == many - 1 ? i + 1 : i);
                }
                writtenBody(PACKED, many, 5, steps(many));
                x.column(1, kind, false);
                is(x.read(1), many);
                is(x.alike(0, 1), 1);
            }
        }
        numbers(INT, false);
        for (int i = 0; i < 129; i++) {
            x.add(0, i);
        }
        writtenBody(PACKED, 129, 5, LEAD + "81 01 00 02 00 00 00 00");
        numbers(INT, false);
        for (int i = 0; i < 130; i++) {
            x.add(0, i);
        }
        writtenBody(PACKED, 130, 5, LEAD + "82 01 00 02 00 00 00 00 02 00 00 00 00");
    }

    private void leastDifference() {
        says("Terms 2, DIFFERENCES", "ZIG of the least difference to the one before (of INTS as ints, of LONGS as longs, going "
            + "round);");
        for (int kind = INT; kind <= LONG; kind++) {
            numbers(kind, false, 9, 4);
            writtenBody(PACKED, 2, 5, LEAD + "02 12 09 00 00 00 00");
            numbers(kind, false, 9, 10, 5, 7);
            writtenBody(PACKED, 4, 5, LEAD + "04 12 09 03 00 00 00 " + Hex.packed(3, 32, 6, 0, 7));
            numbers(kind, false, 4, 4, 4);
            writtenBody(PACKED, 3, 5, LEAD + "03 08 00 00 00 00 00");
            // each block has its own least difference
            numbers(kind, false, 0);
            x.repeat(0, 1, 129);
            x.add(0, 5);
            x.add(0, 1);
            writtenBody(PACKED, 131, 5, LEAD + "83 01 00 00 00 00 00 00 07 04 00 00 00 " + Hex.packed(4, 32, 9, 0));
        }
    }

    private void goingRound() {
        numbers(INT, false, SMALLEST, GREATEST);
        writtenBody(PACKED, 2, 5, LEAD + "02 ff ff ff ff 0f 01 00 00 00 00");
        numbers(INT, false, GREATEST, SMALLEST);
        writtenBody(PACKED, 2, 5, LEAD + "02 fe ff ff ff 0f 02 00 00 00 00");
        numbers(INT, false, -1, GREATEST);
        writtenBody(PACKED, 2, 5, LEAD + "02 01 ff ff ff ff 0f 00 00 00 00");
        numbers(INT, false, 0, GREATEST, -1);
        writtenBody(PACKED, 3, 5, LEAD + "03 00 ff ff ff ff 0f 20 00 00 00 " + Hex.packed(32, 32, 0xFFFFFFFFL, 0));
        numbers(LONG, false, Long.MIN_VALUE, Long.MAX_VALUE);
        writtenBody(PACKED, 2, 5, LEAD + "02 " + Hex.repeated("ff", 9) + "01 01 00 00 00 00");
        numbers(LONG, false, Long.MAX_VALUE, Long.MIN_VALUE);
        writtenBody(PACKED, 2, 5, LEAD + "02 fe " + Hex.repeated("ff", 8) + "01 02 00 00 00 00");
        numbers(LONG, false, SMALLEST, GREATEST);
        writtenBody(PACKED, 2, 5, LEAD + "02 ff ff ff ff 0f fe ff ff ff 1f 00 00 00 00");
        for (int kind = INT; kind <= LONG; kind++) {
            long smallest = kind == INT ? SMALLEST : Long.MIN_VALUE;
            String greatest = Hex.zig(-smallest - 1);
            sound(kind, false, Hex.page(2, 5, LEAD + "02 " + greatest + "02 00 00 00 00"), 2);
            hasNumbers(0, -smallest - 1, smallest);
            sound(kind, false, Hex.page(2, 5, LEAD + "02 01 " + Hex.zig(smallest) + "00 00 00 00"), 2);
            hasNumbers(0, -1, -smallest - 1);
            sound(kind, false, Hex.page(3, 5, LEAD + "03 00 " + greatest + "01 00 00 00 03 00 00 00"), 3);
            hasNumbers(0, 0, smallest, 0);
            int width = kind == INT ? 32 : 64;
            sound(kind, false, Hex.page(3, 5, LEAD + "03 02 02 " + Hex.byteOf(width) + " 00 00 00 "
                + Hex.packed(width, 32, -1, smallest)), 3);
            hasNumbers(0, 1, 1, smallest + 2);
            numbers(kind, false, smallest, -smallest - 1, 0, smallest, -1, 1, -smallest - 1, smallest);
            x.write(0, PACKED, 200, false);
            x.column(1, kind, false);
            is(x.read(1), 8);
            is(x.alike(0, 1), 1);
        }
    }

    private void widthsOfInts() {
        says("Terms 2, DIFFERENCES", "four bytes, widths;");
        for (int width = 0; width <= 31; width++) {
            long most = (1L << width) - 1;
            numbers(INT, false, 0, 0, most);
            writtenBody(PACKED, 3, 5, LEAD + "03 00 00 " + Hex.byteOf(width) + " 00 00 00 " + Hex.packed(width, 32, 0, most));
            if (width > 0) {
                long first = 1L << width - 1;
                numbers(INT, false, 0, first, first);
                writtenBody(PACKED, 3, 5, LEAD + "03 00 00 " + Hex.byteOf(width) + " 00 00 00 "
                    + Hex.packed(width, 32, first, 0));
            }
        }
        numbers(INT, false, 0, SMALLEST, -1);
        writtenBody(PACKED, 3, 5, LEAD + "03 00 ff ff ff ff 0f 20 00 00 00 " + Hex.packed(32, 32, 0, 0xFFFFFFFFL));
        numbers(INT, false, 0, SMALLEST, SMALLEST);
        writtenBody(PACKED, 3, 5, LEAD + "03 00 ff ff ff ff 0f 20 00 00 00 " + Hex.packed(32, 32, 0, 0x80000000L));
        x.column(1, INT, false);
        is(x.read(1), 3);
        hasNumbers(1, 0, SMALLEST, SMALLEST);
        // each part has its own width
        numbers(INT, false, 0);
        x.repeat(0, 1, 31);
        for (long v : new long[] {0, 0, 1}) {
            x.add(0, v);
        }
        writtenBody(PACKED, 34, 5, LEAD + "22 00 00 00 01 00 00 " + Hex.packed(1, 32, 1));
    }

    private void widthsOfLongs() {
        for (int width = 0; width <= 63; width++) {
            long most = (1L << width) - 1;
            numbers(LONG, false, 0, 0, most);
            writtenBody(PACKED, 3, 5, LEAD + "03 00 00 " + Hex.byteOf(width) + " 00 00 00 " + Hex.packed(width, 32, 0, most));
            x.column(1, LONG, false);
            is(x.read(1), 3);
            is(x.alike(0, 1), 1);
        }
        numbers(LONG, false, 0, Long.MIN_VALUE, -1);
        writtenBody(PACKED, 3, 5, LEAD + "03 00 " + Hex.repeated("ff", 9) + "01 40 00 00 00 " + Hex.packed(64, 32, 0, -1));
        numbers(LONG, false, 0, Long.MIN_VALUE, Long.MIN_VALUE);
        writtenBody(PACKED, 3, 5, LEAD + "03 00 " + Hex.repeated("ff", 9) + "01 40 00 00 00 "
            + Hex.packed(64, 32, 0, Long.MIN_VALUE));
        x.column(1, LONG, false);
        is(x.read(1), 3);
        hasNumbers(1, 0, Long.MIN_VALUE, Long.MIN_VALUE);
    }

    private void lessThatLeastOne() {
        says("Terms 2, DIFFERENCES", "four parts of 32 differences, each less that least one, packed by its part's width: the "
            + "least that will do for all of them (as numbers without sign; 0s beyond the last one).");
        for (int kind = INT; kind <= LONG; kind++) {
            numbers(kind, false);
            long[] rest = new long[128];
            long v = 0;
            x.add(0, v);
            for (int i = 0; i < 128; i++) {
                rest[i] = i == 0 ? 0 : (1L << i / 32 + 1) - 1 - i % 2;
                v += rest[i] - 10;
                x.add(0, v);
            }
            StringBuilder parts = new StringBuilder();
            for (int part = 0; part < 4; part++) {
                parts.append(Hex.packed(part + 1, 32, Arrays.copyOfRange(rest, 32 * part, 32 * part + 32)));
            }
            writtenBody(PACKED, 129, 5, LEAD + "81 01 00 13 01 02 03 04 " + parts);
            x.column(1, kind, false);
            is(x.read(1), 129);
            is(x.alike(0, 1), 1);
        }
        // the last one of all stands at the end of a part, at the begin of the next
        numbers(INT, false, 0);
        x.repeat(0, 1, 32);
        x.add(0, 7);
        writtenBody(PACKED, 33, 5, LEAD + "21 00 00 03 00 00 00 " + Hex.repeated("00", 11) + "e0");
        numbers(INT, false, 0);
        x.repeat(0, 1, 33);
        x.add(0, 7);
        writtenBody(PACKED, 34, 5, LEAD + "22 00 00 00 03 00 00 07 " + Hex.repeated("00", 11));
    }

    private void partsThatAreNotThere() {
        says("Terms 2, DIFFERENCES", "A part that no number is in is not there, its width is 0.");
        int[] many = {2, 33, 34, 65, 66, 97, 98, 129};
        int[] parts = {1, 1, 2, 2, 3, 3, 4, 4};
        for (int i = 0; i < many.length; i++) {
            // every part that is there is one bit wide
            String widths = Hex.repeated("01", parts[i]) + Hex.repeated("00", 4 - parts[i]);
            String lead = LEAD + Hex.var(many[i]) + "00 00 " + widths;
            String page = Hex.page(many[i], 5, lead + Hex.repeated("ff", 4 * parts[i]));
            sound(INT, false, page, many[i]);
            is(x.value(0, many[i] - 1), many[i] - 1);
            sound(LONG, false, page, many[i]);
            String left = Hex.page(many[i], 5, lead + Hex.repeated("ff", 4 * parts[i] + 1));
            fault(INT, false, left, 13, Hex.length(left) - 1);
            String fewer = Hex.page(many[i], 5, lead + Hex.repeated("ff", 4 * parts[i] - 1));
            fault(INT, false, fewer, 1, Hex.length(fewer));
        }
    }

    private void wrongBegins() {
        says("Terms 2, DIFFERENCES", "READ: FAULT 5 (where the DIFFERENCES begin), when the first, second, third VAR was read: "
            + "not 128, 4, n.");
        for (int kind = INT; kind <= TEXT; kind++) {
            int code = kind == TEXT ? 6 : 5;
            fault(kind, false, Hex.page(1, code, "7f 04 01 00"), 5, 13);
            fault(kind, false, Hex.page(1, code, "81 01 04 01 00"), 5, 13);
            fault(kind, false, Hex.page(1, code, "80 02"), 5, 13);
            fault(kind, false, Hex.page(1, code, "00"), 5, 13);
            fault(kind, false, Hex.page(1, code, "80"), 1, 14);
            fault(kind, false, Hex.page(1, code, "80 01"), 1, 15);
            fault(kind, false, Hex.page(1, code, "80 01 03"), 5, 13);
            fault(kind, false, Hex.page(1, code, "80 01 05"), 5, 13);
            fault(kind, false, Hex.page(1, code, "80 01 04"), 1, 16);
            fault(kind, false, Hex.page(1, code, "80 01 04 00"), 5, 13);
            fault(kind, false, Hex.page(1, code, "80 01 04 02"), 5, 13);
            fault(kind, false, Hex.page(1, code, "80 01 04 01"), 1, 17);
            fault(kind, false, Hex.page(1, code, "80 81 80 80 10 04 01 00"), 5, 13);
            fault(kind, false, Hex.page(1, code, "80 01 84 80 80 80 10 01 00"), 5, 13);
            fault(kind, false, Hex.page(1, code, "80 01 04 81 80 80 80 10 00"), 5, 13);
            sound(kind, false, Hex.page(1, code, "80 81 80 00 84 00 81 00 00"), 1);
            fault(kind, true, Hex.page(1, code, "02 00 00 00 03 01 80 01 03"), 5, 19);
            fault(kind, true, Hex.page(2, code, "02 00 00 00 03 01 80 01 04 02"), 5, 19);
        }
    }

    private void wrongWidths() {
        says("Terms 2, DIFFERENCES", "FAULT 6 (at the width, as each is read): above 32 (INT), 64 (LONG), or not 0 of a part that "
            + "is not there.");
        String block = LEAD + "02 00 00 ";
        String zeros = Hex.repeated("00", 300);
        fault(INT, false, Hex.page(2, 5, block + "21"), 6, 19);
        fault(INT, false, Hex.page(2, 5, block + "40"), 6, 19);
        fault(INT, false, Hex.page(2, 5, block + "ff"), 6, 19);
        fault(INT, false, Hex.page(2, 5, block + "20"), 1, 20);
        sound(INT, false, Hex.page(2, 5, block + "20 00 00 00 ff ff ff ff " + Hex.repeated("00", 124)), 2);
        hasNumbers(0, 0, -1);
        fault(INT, false, Hex.page(2, 5, block + "21 00 00 00 " + zeros), 6, 21);
        fault(LONG, false, Hex.page(2, 5, block + "41"), 6, 19);
        fault(LONG, false, Hex.page(2, 5, block + "ff"), 6, 19);
        fault(LONG, false, Hex.page(2, 5, block + "40"), 1, 20);
        sound(LONG, false, Hex.page(2, 5, block + "40 00 00 00 " + Hex.repeated("ff", 8) + Hex.repeated("00", 248)), 2);
        hasNumbers(0, 0, -1);
        sound(LONG, false, Hex.page(2, 5, block + "21 00 00 00 " + Hex.repeated("ff", 132)), 2);
        hasNumbers(0, 0, (1L << 33) - 1);
        fault(TEXT, false, Hex.page(2, 6, block + "21"), 6, 19);
        fault(TEXT, false, Hex.page(2, 6, block + "20"), 1, 20);
    }

    private void wrongWidthsOfPartsThatAreNotThere() {
        for (int kind = INT; kind <= LONG; kind++) {
            fault(kind, false, Hex.page(33, 5, LEAD + "21 00 00 00 01"), 6, 20);
            fault(kind, false, Hex.page(34, 5, LEAD + "22 00 00 00 01 01"), 6, 21);
            fault(kind, false, Hex.page(34, 5, LEAD + "22 00 00 00 01 00 00"), 1, 23);
            fault(kind, false, Hex.page(2, 5, LEAD + "02 00 00 00 01 00 00"), 6, 20);
            fault(kind, false, Hex.page(2, 5, LEAD + "02 00 00 00 00 01 00"), 6, 21);
            fault(kind, false, Hex.page(2, 5, LEAD + "02 00 00 00 00 00 01"), 6, 22);
            fault(kind, false, Hex.page(2, 5, LEAD + "02 00 00 00 00 00 ff"), 6, 22);
            // of the last block, behind a whole one: the parts are counted anew; 14 bytes of HEAD
            String whole = LEAD + "82 01 00 00 00 00 00 00 00 ";
            fault(kind, false, Hex.page(130, 5, whole + "00 01 00 00"), 6, 14 + 13);
            fault(kind, false, Hex.page(130, 5, whole + "00 00 00 01"), 6, 14 + 15);
            sound(kind, false, Hex.page(130, 5, whole + "01 00 00 00 01 00 00 00"), 130);
            is(x.value(0, 129), 1);
        }
    }

    private void widthsOneByOne() {
        fault(INT, false, Hex.page(2, 5, LEAD + "02 00 00 21 01 01 01"), 6, 19);
        fault(INT, false, Hex.page(2, 5, LEAD + "02 00 00 20 01"), 6, 20);
        fault(INT, false, Hex.page(2, 5, LEAD + "02 00 00 00 00"), 1, 21);
        fault(INT, false, Hex.page(2, 5, LEAD + "02 00 00"), 1, 19);
        fault(INT, false, Hex.page(2, 5, LEAD + "02 00"), 1, 18);
        // widths are looked at ahead of the parts, a block ahead of the next one
        fault(INT, false, Hex.page(66, 5, LEAD + "42 00 00 20 20 21 00 00 00"), 6, 22);
        fault(INT, false, Hex.page(130, 5, LEAD + "82 01 00 00 01 00 00 00 00 00"), 1, 14 + 13);
    }

    private void beyondTheLastOne() {
        says("Terms 2, DIFFERENCES", "(What is beyond the last one does not count.");
        sound(INT, false, Hex.page(2, 5, LEAD + "02 00 00 01 00 00 00 ff ff ff ff"), 2);
        hasNumbers(0, 0, 1);
        sound(INT, false, Hex.page(2, 5, LEAD + "02 00 00 01 00 00 00 fe ff ff ff"), 2);
        hasNumbers(0, 0, 0);
        sound(LONG, false, Hex.page(3, 5, LEAD + "03 00 00 02 00 00 00 f6 ff ff ff ff ff ff ff"), 3);
        hasNumbers(0, 0, 2, 3);
        sound(TEXT, false, Hex.page(2, 6, LEAD + "02 00 00 03 00 00 00 f9 " + Hex.repeated("ff", 11) + " 61"), 2);
        hasTexts(0, "", "a");
        fault(INT, false, Hex.page(2, 5, LEAD + "02 00 00 01 00 00 00 ff ff ff"), 1, 26);
    }

    private void cutToInts() {
        says("Terms 2, DIFFERENCES", "ZIGS of INTS are cut to ints.)");
        sound(INT, false, Hex.page(1, 5, LEAD + "01 " + Hex.zig((1L << 32) + 7)), 1);
        hasNumbers(0, 7);
        sound(INT, false, Hex.page(1, 5, LEAD + "01 " + Hex.zig(1L << 31)), 1);
        hasNumbers(0, SMALLEST);
        sound(INT, false, Hex.page(1, 5, LEAD + "01 " + Hex.zig(SMALLEST - 1L)), 1);
        hasNumbers(0, GREATEST);
        sound(INT, false, Hex.page(1, 5, LEAD + "01 " + Hex.zig(Long.MIN_VALUE)), 1);
        hasNumbers(0, 0);
        sound(INT, false, Hex.page(3, 5, LEAD + "03 02 " + Hex.zig((1L << 32) + 2) + "00 00 00 00"), 3);
        hasNumbers(0, 1, 3, 5);
        sound(INT, false, Hex.page(2, 5, LEAD + "02 00 " + Hex.zig(Long.MAX_VALUE) + "00 00 00 00"), 2);
        hasNumbers(0, 0, -1);
        sound(LONG, false, Hex.page(2, 5, LEAD + "02 02 " + Hex.zig(1L << 32) + "00 00 00 00"), 2);
        hasNumbers(0, 1, 1 + (1L << 32));
        sound(TEXT, false, Hex.page(2, 6, LEAD + "02 " + Hex.zig(1L << 32) + Hex.zig((1L << 33) + 1) + "00 00 00 00 61"), 2);
        hasTexts(0, "", "a");
    }
}
