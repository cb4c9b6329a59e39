/** "Terms", 3 PAGES: HEAD and BODY, the CODES, what each WAY writes. */
final class PagesPart extends Part {
    PagesPart(Check check, Document document) {
        super(check, document);
    }

    @Override
    void holds() {
        oneBehindTheOther();
        fieldsAndSorts();
        fieldsOfAHead();
        levels();
        levelsOfNone();
        plainNumbers();
        plainTexts();
        plainTruths();
        differences();
        lengths();
        places();
        truthRuns();
        dictionaryBody();
        valuesAPage();
        noValues();
        plainWay();
        dictionaryWay();
        dictionaryOfNone();
        leastWidthOfPlaces();
        packedWay();
    }

    private void oneBehindTheOther() {
        says("Terms 3", "==== 3 PAGES one behind the other: a HEAD, then a BODY of so many bytes as that tells.");
        numbers(INT, false, 6, 7, 8);
        written(PLAIN, 1, "15 00 15 08 15 08 2c 15 02 15 00 00 00 | 06 00 00 00 | "
            + "15 00 15 08 15 08 2c 15 02 15 00 00 00 | 07 00 00 00 | "
            + "15 00 15 08 15 08 2c 15 02 15 00 00 00 | 08 00 00 00");
        sound(INT, false, Hex.page(1, 0, "06 00 00 00") + Hex.page(2, 5, "80 01 04 02 0e 02 00 00 00 00"), 3, 2, 0);
        hasNumbers(0, 6, 7, 8);
        sound(INT, false, Hex.page(0, 0, "") + Hex.page(1, 0, "06 00 00 00") + Hex.page(0, 0, ""), 1, 3, 0);
    }

    private void fieldsAndSorts() {
        says("Terms 3", "A HEAD is a STRUCT of FIELDS: each FIELD a byte: 16 times how far its number is above the one ahead of it "
            + "(of the first: above 0), and its SORT: 5 a ZIG, 12 a STRUCT; then that; at last a byte 0.");
        numbers(TRUTH, false, 1);
        written(PLAIN, 1, "15 00 | 15 02 | 15 02 | 2c | 15 02 | 15 00 | 00 | 00 | 01");
        numbers(INT, false, 5, 7, 5);
        x.write(0, DICTIONARY, 200, false);
        is(x.hex(0, 13), Hex.plain("15 04 | 15 10 | 15 10 | 4c | 15 04 | 15 00 | 00 | 00"));
        is(x.hex(21, 34), Hex.plain("15 00 | 15 06 | 15 06 | 2c | 15 06 | 15 10 | 00 | 00"));
    }

    private void fieldsOfAHead() {
        says("Terms 3", "HEAD: FIELDS 1 (what it is: 0 data, 2 dictionary), 2 and 3 (bytes of the BODY, each), and of data 5: a "
            + "STRUCT of 1 (how many VALUES, ABSENT ones too), 2 (its CODE); of a dictionary 7: a STRUCT of 1 (how many), 2 "
            + "(CODE 0). Just these FIELDS, in this order.");
        numbers(INT, true, 3);
        x.addNone(0);
        x.addNone(0);
        written(PLAIN, 200, "15 00 15 14 15 14 2c 15 06 15 00 00 00 | 02 00 00 00 03 01 | 03 00 00 00");
        written(DICTIONARY, 200, "15 04 15 08 15 08 4c 15 02 15 00 00 00 | 03 00 00 00 "
            + "15 00 15 10 15 10 2c 15 06 15 10 00 00 | 02 00 00 00 03 01 | 00 03");
        // BODIES of 63, 64 bytes, of 8191, 8192: ZIGS of one, two, three bytes
        for (int bytes : new int[] {63, 64}) {
            texts(false, "1234567890123456789012345678901234567890", "x".repeat(bytes - 48));
            x.write(0, PLAIN, 200, false);
            is(x.hex(0, 8), bytes == 63 ? "15 00 15 7e 15 7e 2c 15" : "15 00 15 80 01 15 80 01");
        }
        for (int bytes : new int[] {8191, 8192}) {
            texts(false, "1234567890123456789012345678901234567890");
            x.repeat(0, 1, 186);
            x.text(0, "y".repeat(bytes - 186 * 44 - 4));
            x.write(0, PLAIN, 200, false);
            is(x.size(), bytes + (bytes == 8191 ? 16 : 18));
            is(x.hex(0, 8), bytes == 8191 ? "15 00 15 fe 7f 15 fe 7f" : "15 00 15 80 80 01 15 80");
        }
    }

    private void levels() {
        says("Terms 3", "A data BODY of m VALUES: if the COLUMN is OPTIONAL, how many bytes the LEVELS take (4 bytes, an int), then "
            + "these: RUNS of m numbers of 1 bit (1: it is there). Then, p of them being there (m of one that is not OPTIONAL), "
            + "by CODE:");
        truths(true, "1-0");
        writtenBody(PLAIN, 3, 0, "02 00 00 00 03 05 | 01");
        writtenBody(PACKED, 3, 3, "02 00 00 00 03 05 | 02 00 00 00 03 01");
        truths(true, "--------1");
        writtenBody(PLAIN, 9, 0, "04 00 00 00 10 00 03 01 | 01");
        truths(true, "00000000");
        writtenBody(PLAIN, 8, 0, "02 00 00 00 10 01 | 00");
        truths(false, "00000000");
        writtenBody(PLAIN, 8, 0, "00");
        numbers(INT, true, 9);
        x.repeat(0, 1, 200);
        x.write(0, PACKED, 200, false);
        is(x.hex(), Hex.plain(Hex.page(200, 5, "03 00 00 00 90 03 01 | 80 01 04 c8 01 12 00 00 00 00 00 00 00 00 00 00")));
        // many LEVELS: 25 groups
        numbers(LONG, true);
        for (int i = 0; i < 200; i++) {
            is(i % 2 == 0 ? x.add(0, i) : x.addNone(0), i);
        }
        x.write(0, PLAIN, 200, false);
        is(x.size(), 16 + 4 + 26 + 800);
        is(x.hex(16, 16 + 4 + 26 + 8), Hex.plain("1a 00 00 00 33 " + Hex.repeated("55", 25) + Hex.repeated("00", 8)));
        sound(INT, true, Hex.page(9, 0, "04 00 00 00 10 00 03 01 06 00 00 00"), 9);
        is(x.told(0, 3), 8);
        is(x.has(0, 7), 0);
        is(x.value(0, 8), 6);
        sound(TRUTH, true, Hex.page(3, 0, "02 00 00 00 03 05 02"), 3);
        is(x.has(0, 1), 0);
        is(x.value(0, 0), 0);
        is(x.value(0, 2), 1);
        // the same bytes are other VALUES of a COLUMN that is not OPTIONAL
        sound(INT, false, Hex.page(2, 0, "04 00 00 00 02 01 02 00"), 2);
        hasNumbers(0, 4, 0x20102);
        fault(INT, true, Hex.page(2, 0, "04 00 00 00 02 01 02 00"), 1, 21);
    }

    private void levelsOfNone() {
        for (int kind = INT; kind <= TRUTH; kind++) {
            numbers(kind, true);
            x.addNone(0);
            x.addNone(0);
            writtenBody(PLAIN, 2, 0, "02 00 00 00 03 00");
            sound(kind, true, Hex.page(2, 0, "02 00 00 00 03 00"), 2);
            is(x.told(0, 3), 2);
            sound(kind, true, Hex.page(0, 0, "00 00 00 00"), 0);
            sound(kind, false, Hex.page(0, 0, ""), 0);
        }
        texts(true, null, "a", null, "", null);
        writtenBody(PLAIN, 5, 0, "02 00 00 00 03 0a | 01 00 00 00 61 00 00 00 00");
        x.column(1, TEXT, true);
        x.read(1);
        hasTexts(1, null, "a", null, "", null);
    }

    // ---- by CODE

    private void plainNumbers() {
        says("Terms 3", "0 PLAIN: INT 4 bytes, LONG 8;");
        numbers(INT, false, 1, -1, SMALLEST, GREATEST);
        String ints = "01 00 00 00 | ff ff ff ff | 00 00 00 80 | ff ff ff 7f";
        writtenBody(PLAIN, 4, 0, ints);
        sound(INT, false, Hex.page(4, 0, ints), 4);
        hasNumbers(0, 1, -1, SMALLEST, GREATEST);
        numbers(LONG, false, 1, -1, Long.MIN_VALUE, 0xFFFFFFFFL);
        String longs = "01 00 00 00 00 00 00 00 | ff ff ff ff ff ff ff ff | 00 00 00 00 00 00 00 80 | ff ff ff ff 00 00 00 00";
        writtenBody(PLAIN, 4, 0, longs);
        sound(LONG, false, Hex.page(4, 0, longs), 4);
        hasNumbers(0, 1, -1, Long.MIN_VALUE, 0xFFFFFFFFL);
    }

    private void plainTexts() {
        says("Terms 3", "TEXT: its length (4 bytes, an int) and its bytes;");
        texts(false, "ab", "", "c");
        String body = "02 00 00 00 61 62 | 00 00 00 00 | 01 00 00 00 63";
        writtenBody(PLAIN, 3, 0, body);
        sound(TEXT, false, Hex.page(3, 0, body), 3);
        hasTexts(0, "ab", "", "c");
        texts(false, "z".repeat(40));
        writtenBody(PLAIN, 1, 0, "28 00 00 00 " + Hex.repeated("7a", 40));
        sound(TEXT, false, Hex.page(2, 0, "02 00 00 00 00 ff 01 00 00 00 80"), 2);
        hasTexts(0, "\u0000\u00ff", "\u0080");
    }

    private void plainTruths() {
        says("Terms 3", "TRUTH: packed, one bit each (0s beyond; READ they do not count).");
        truths(false, "1");
        writtenBody(PLAIN, 1, 0, "01");
        truths(false, "1111111");
        writtenBody(PLAIN, 7, 0, "7f");
        truths(false, "11111111");
        writtenBody(PLAIN, 8, 0, "ff");
        truths(false, "101100001");
        writtenBody(PLAIN, 9, 0, "0d 01");
        truths(false, "1".repeat(200));
        writtenBody(PLAIN, 200, 0, Hex.repeated("ff", 25));
        truths(false, "1".repeat(193));
        writtenBody(PLAIN, 193, 0, Hex.repeated("ff", 24) + "01");
        sound(TRUTH, false, Hex.page(3, 0, "fd"), 3);
        hasNumbers(0, 1, 0, 1);
        sound(TRUTH, false, Hex.page(8, 0, "7f"), 8);
        is(x.value(0, 7), 0);
        sound(TRUTH, false, Hex.page(9, 0, "00 fe"), 9);
        is(x.value(0, 8), 0);
        sound(TRUTH, false, Hex.page(9, 0, "00 01"), 9);
        is(x.value(0, 8), 1);
        fault(TRUTH, false, Hex.page(9, 0, "fd"), 1, 14);
        fault(TRUTH, false, Hex.page(8, 0, "fd 00"), 13, 14);
        fault(TRUTH, false, Hex.page(1, 0, ""), 1, 13);
    }

    private void differences() {
        says("Terms 3", "5: DIFFERENCES (INT, LONG).");
        for (int kind = INT; kind <= LONG; kind++) {
            numbers(kind, true, 2);
            x.addNone(0);
            x.add(0, 5);
            String body = "02 00 00 00 03 05 | 80 01 04 02 04 06 00 00 00 00";
            writtenBody(PACKED, 3, 5, body);
            sound(kind, true, Hex.page(3, 5, body), 3);
            is(x.value(0, 0), 2);
            is(x.has(0, 1), 0);
            is(x.value(0, 2), 5);
            // each page has DIFFERENCES of its own
            numbers(kind, false, 2, 5, 9);
            written(PACKED, 2, Hex.page(2, 5, "80 01 04 02 04 06 00 00 00 00") + Hex.page(1, 5, "80 01 04 01 12"));
        }
    }

    private void lengths() {
        says("Terms 3", "6 (TEXT): DIFFERENCES of the lengths, as of INTS; then all bytes of all.");
        texts(true, "ab", null, "", "c");
        String body = "02 00 00 00 03 0d | 80 01 04 03 04 03 02 00 00 00 0c 00 00 00 00 00 00 00 | 61 62 63";
        writtenBody(PACKED, 4, 6, body);
        sound(TEXT, true, Hex.page(4, 6, body), 4);
        hasTexts(0, "ab", null, "", "c");
        texts(false, "ab", "c");
        written(PACKED, 1, Hex.page(1, 6, "80 01 04 01 04 | 61 62") + Hex.page(1, 6, "80 01 04 01 02 | 63"));
        texts(false, "", "");
        writtenBody(PACKED, 2, 6, "80 01 04 02 00 00 00 00 00 00");
        texts(false, "x".repeat(40), "", "y".repeat(40));
        writtenBody(PACKED, 3, 6, "80 01 04 03 50 4f 07 00 00 00 " + Hex.packed(7, 32, 0, 80)
            + Hex.repeated("78", 40) + Hex.repeated("79", 40));
        x.column(1, TEXT, false);
        x.read(1);
        is(x.alike(0, 1), 1);
    }

    private void places() {
        says("Terms 3", "8 (not TRUTH): a byte w; RUNS of p numbers of w bits, places in the dictionary.");
        numbers(LONG, true, 6, 6);
        x.addNone(0);
        x.add(0, 7);
        written(DICTIONARY, 200, Hex.dictionary(2, "06 00 00 00 00 00 00 00 07 00 00 00 00 00 00 00")
            + Hex.page(4, 8, "02 00 00 00 03 0b | 01 | 03 04"));
        sound(LONG, true, Hex.dictionary(2, "06 00 00 00 00 00 00 00 07 00 00 00 00 00 00 00")
            + Hex.page(4, 8, "02 00 00 00 03 0b | 01 | 03 04"), 4, 2, 2);
        is(x.value(0, 0), 6);
        is(x.value(0, 1), 6);
        is(x.has(0, 2), 0);
        is(x.value(0, 3), 7);
        sound(TEXT, true, Hex.dictionary(2, "01 00 00 00 61 00 00 00 00") + Hex.page(3, 8, "02 00 00 00 03 05 | 01 | 03 01"),
            3, 2, 2);
        hasTexts(0, "", null, "a");
        sound(INT, false, FIVE_SEVEN + Hex.page(0, 8, "01"), 0, 2, 2);
        sound(INT, true, FIVE_SEVEN + Hex.page(1, 8, "02 00 00 00 03 00 | 20"), 1, 2, 2);
        // beside pages of CODE 8 others may stand
        sound(INT, false, FIVE_SEVEN + Hex.page(1, 0, "02 00 00 00") + Hex.page(1, 8, "01 03 01")
            + Hex.page(1, 5, "80 01 04 01 12"), 3, 4, 2);
        hasNumbers(0, 2, 7, 9);
    }

    private void truthRuns() {
        says("Terms 3", "3 (TRUTH): how many bytes (4, an int), then RUNS of 1 bit of p numbers.");
        truths(true, "1-01");
        writtenBody(PACKED, 4, 3, "02 00 00 00 03 0d | 02 00 00 00 03 05");
        sound(TRUTH, true, Hex.page(4, 3, "02 00 00 00 03 0d | 02 00 00 00 03 05"), 4);
        is(x.value(0, 0), 1);
        is(x.has(0, 1), 0);
        is(x.value(0, 2), 0);
        is(x.value(0, 3), 1);
        truths(false, "1".repeat(200));
        writtenBody(PACKED, 200, 3, "03 00 00 00 90 03 01");
        sound(TRUTH, true, Hex.page(3, 3, "02 00 00 00 06 00 00 00 00 00"), 3);
        is(x.told(0, 3), 3);
    }

    private void dictionaryBody() {
        says("Terms 3", "A dictionary BODY: so many values, PLAIN.");
        texts(false, "b", "a", "b", "", "a");
        written(DICTIONARY, 3, Hex.dictionary(3, "01 00 00 00 62 | 01 00 00 00 61 | 00 00 00 00")
            + Hex.page(3, 8, "02 03 04 00") + Hex.page(2, 8, "02 03 06 00"));
        x.column(1, TEXT, false);
        is(x.read(1), 5);
        is(x.alike(0, 1), 1);
        // no LEVELS in a dictionary
        sound(INT, true, Hex.dictionary(1, "08 00 00 00") + Hex.page(1, 8, "02 00 00 00 03 01 | 00 03"), 1, 2, 1);
        is(x.value(0, 0), 8);
        // values of a dictionary may be alike, and some may be in no place
        sound(INT, false, Hex.dictionary(3, "08 00 00 00 08 00 00 00 09 00 00 00") + Hex.page(2, 8, "02 03 04 00"), 2, 2, 3);
        hasNumbers(0, 8, 8);
    }

    // ---- by a WAY

    private void valuesAPage() {
        says("Terms 3", "WRITTEN by a WAY with q VALUES a page (the last page fewer;");
        truths(false, "10111");
        written(PLAIN, 2, Hex.page(2, 0, "01") + Hex.page(2, 0, "03") + Hex.page(1, 0, "01"));
        written(PLAIN, 3, Hex.page(3, 0, "05") + Hex.page(2, 0, "03"));
        written(PLAIN, 4, Hex.page(4, 0, "0d") + Hex.page(1, 0, "01"));
        written(PLAIN, 5, Hex.page(5, 0, "1d"));
        written(PLAIN, 6, Hex.page(5, 0, "1d"));
        written(PLAIN, 200, Hex.page(5, 0, "1d"));
        written(PLAIN, 1, Hex.page(1, 0, "01") + Hex.page(1, 0, "00") + Hex.repeated(Hex.page(1, 0, "01"), 3));
        // absent ones count
        truths(true, "1--");
        written(PLAIN, 2, Hex.page(2, 0, "02 00 00 00 03 01 01") + Hex.page(1, 0, "02 00 00 00 03 00"));
        full(INT, false);
        is(x.write(0, PLAIN, 1, false), 200 * 17);
        is(x.write(0, PLAIN, 100, false), 2 * (16 + 400));
        is(x.write(0, PLAIN, 199, false), 16 + 796 + 17);
        is(x.write(0, PLAIN, 200, false), 16 + 800);
        x.column(1, INT, false);
        for (int q = 1; q <= 200; q++) {
            x.write(0, PACKED, q, false);
            is(x.read(1), 200);
            is(x.fault(2), (199 + q) / q);
        }
    }

    private void noValues() {
        says("Terms 3", "no VALUES: no page at all):");
        for (int kind = INT; kind <= TRUTH; kind++) {
            for (int way = PLAIN; way <= PACKED; way++) {
                if (kind == TRUTH && way == DICTIONARY) {
                    continue;
                }
                numbers(kind, way == PACKED);
                is(x.write(0, way, 1, false), 0);
                x.put(5, 1);
                is(x.write(0, way, 200, true), 1);
                is(x.byteAt(0), 5);
                is(x.write(0, way, 200, false), 0);
                is(x.size(), 0);
                is(x.read(0), 0);
                is(x.fault(2), 0);
            }
        }
    }

    private void plainWay() {
        says("Terms 3", "0 PLAIN;");
        numbers(INT, false, 5, 5);
        writtenBody(PLAIN, 2, 0, "05 00 00 00 05 00 00 00");
        numbers(LONG, false, 5);
        writtenBody(PLAIN, 1, 0, "05 00 00 00 00 00 00 00");
        texts(false, "a");
        writtenBody(PLAIN, 1, 0, "01 00 00 00 61");
        truths(false, "01");
        writtenBody(PLAIN, 2, 0, "02");
    }

    private void dictionaryWay() {
        says("Terms 3", "1 (not TRUTH) a dictionary page of all unlike values that are there, as they come first (perhaps none), "
            + "then pages of CODE 8,");
        numbers(INT, false, 7, 5, 7, 9, 5);
        written(DICTIONARY, 2, Hex.dictionary(3, "07 00 00 00 05 00 00 00 09 00 00 00")
            + Hex.page(2, 8, "02 03 04 00") + Hex.page(2, 8, "02 03 08 00") + Hex.page(1, 8, "02 03 01 00"));
        is(x.write(0, DICTIONARY, 200, false), 13 + 12 + 13 + 4);
        // values that went are in no page
        for (int way = PLAIN; way <= PACKED; way++) {
            numbers(INT, true, 7, 5, 9, 8);
            x.write(0, way, 1, false);
            x.repeat(0, 2, 1);
            x.column(1, INT, true);
            x.add(1, 7);
            x.add(1, 5);
            x.write(1, way, 200, false);
            String due = x.hex();
            x.write(0, way, 200, false);
            is(x.hex(), due);
        }
        numbers(INT, false, 7, 5, 9);
        x.repeat(0, 2, 1);
        written(DICTIONARY, 200, Hex.dictionary(2, "07 00 00 00 05 00 00 00") + Hex.page(2, 8, "01 03 02"));
        numbers(LONG, false, 1L << 32, 0, -1L << 63);
        written(DICTIONARY, 200, Hex.dictionary(3, "00 00 00 00 01 00 00 00 | 00 00 00 00 00 00 00 00 | 00 00 00 00 00 00 00 80")
            + Hex.page(3, 8, "02 03 24 00"));
        texts(true, null, "", "a", null, "ab", "a", "");
        written(DICTIONARY, 200, Hex.dictionary(3, "00 00 00 00 | 01 00 00 00 61 | 02 00 00 00 61 62")
            + Hex.page(7, 8, "02 00 00 00 03 76 | 02 03 64 00"));
        // texts that are alike up to the last byte, or to the end of one
        texts(false, "x".repeat(39) + "a", "x".repeat(39) + "b", "x".repeat(39), "x".repeat(39) + "a");
        x.write(0, DICTIONARY, 200, false);
        x.column(1, TEXT, false);
        is(x.read(1), 4);
        is(x.fault(3), 3);
        is(x.alike(0, 1), 1);
        numbers(TRUTH, false, 1);
        is(x.write(0, DICTIONARY, 1, false), BAD);
    }

    private void dictionaryOfNone() {
        for (int kind = INT; kind <= TEXT; kind++) {
            numbers(kind, true);
            x.addNone(0);
            x.addNone(0);
            written(DICTIONARY, 200, "15 04 15 00 15 00 4c 15 00 15 00 00 00 " + Hex.page(2, 8, "02 00 00 00 03 00 | 00"));
            x.column(1, kind, true);
            is(x.read(1), 2);
            is(x.fault(2), 2);
            is(x.fault(3), 0);
            is(x.alike(0, 1), 1);
            written(DICTIONARY, 1, "15 04 15 00 15 00 4c 15 00 15 00 00 00 "
                + Hex.repeated(Hex.page(1, 8, "02 00 00 00 03 00 | 00"), 2));
        }
    }

    private void leastWidthOfPlaces() {
        says("Terms 3", "w: the least that will do for the greatest place in the dictionary (0 for one or none);");
        numbers(INT, false, 6);
        written(DICTIONARY, 200, Hex.dictionary(1, "06 00 00 00") + Hex.page(1, 8, "00 03"));
        numbers(INT, false, 6);
        x.repeat(0, 1, 7);
        written(DICTIONARY, 200, Hex.dictionary(1, "06 00 00 00") + Hex.page(7, 8, "00 03"));
        for (int unlike = 2; unlike <= 200; unlike++) {
            numbers(INT, false);
            StringBuilder dictionary = new StringBuilder();
            long[] places = new long[unlike];
            for (int i = 0; i < unlike; i++) {
                x.add(0, 1000 + i);
                dictionary.append(Hex.fourBytes(1000 + i));
                places[i] = i;
            }
            int width = 32 - Integer.numberOfLeadingZeros(unlike - 1);
            int groups = (unlike + 7) / 8;
            written(DICTIONARY, 200, Hex.dictionary(unlike, dictionary.toString()) + Hex.page(unlike, 8,
                Hex.byteOf(width) + " " + Hex.var(2L * groups + 1) + Hex.packed(width, 8 * groups, places)));
        }
        // of the whole dictionary, in every page
        numbers(INT, false, 1, 1, 1, 2, 3, 4, 5);
        x.write(0, DICTIONARY, 3, false);
        is(x.hex(33, x.size()), Hex.plain(Hex.page(3, 8, "03 03 00 00 00") + Hex.page(3, 8, "03 03 d1 00 00")
            + Hex.page(1, 8, "03 03 04 00 00")));
    }

    private void packedWay() {
        says("Terms 3", "2 CODE 5, of TEXT 6, of TRUTH 3.");
        numbers(INT, false, 1);
        writtenBody(PACKED, 1, 5, "80 01 04 01 02");
        numbers(LONG, false, 1);
        writtenBody(PACKED, 1, 5, "80 01 04 01 02");
        texts(false, "a");
        writtenBody(PACKED, 1, 6, "80 01 04 01 02 61");
        truths(false, "1");
        writtenBody(PACKED, 1, 3, "02 00 00 00 03 01");
    }
}
