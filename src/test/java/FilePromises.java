/** "Promise 13" to "Promise 20": pages and the file. */
final class FilePromises extends Part {
    private static final int[] NO_COLUMNS = {SMALLEST, -1, 4, 5, GREATEST};
    private static final String ONE = Hex.page(1, 0, "01");

    FilePromises(Check check, Document document) {
        super(check, document);
    }

    @Override
    void holds() {
        write();
        writeIsBad();
        writeIsFull();
        readAnswers();
        readFaults();
        valuesStay();
        readIsBad();
        everyFaultIsTold();
        wholePages();
        valuesOfTheDictionary();
        faultIsBad();
        faultBeforeARead();
        size();
        byteAt();
        poke();
        cut();
        put();
        putIsRefused();
    }

    // ---- write

    private void write() {
        says("Promise 13", "`int write(int c, int way, int q, boolean behind)`: A COLUMN is WRITTEN to THE FILE, in place of what "
            + "it has, or behind it: how many bytes it has.");
        for (int c = 0; c < 4; c++) {
            x = new Pages();
            x.column(c, TRUTH, false);
            x.add(c, 1);
            x.put(0xAB, 1);
            is(x.write(c, PLAIN, 1, true), 15);
            is(x.hex(), "ab " + ONE.trim());
            is(x.write(c, PLAIN, 1, true), 29);
            is(x.hex(), "ab " + ONE + ONE.trim());
            is(x.write(c, PLAIN, 1, false), 14);
            is(x.hex(), ONE.trim());
            is(x.write(c, PACKED, 1, false), 19);
            is(x.told(c, 2), 1);
            x.column(c, TRUTH, false);
            is(x.write(c, PLAIN, 1, true), 19);
            is(x.write(c, PLAIN, 1, false), 0);
            is(x.size(), 0);
        }
        // behind another page a dictionary may stand, but not be read
        numbers(INT, false, 6);
        x.write(0, PLAIN, 1, false);
        is(x.write(0, DICTIONARY, 1, true), 17 + 17 + 15);
        is(x.read(0), -19);
        is(x.fault(1), 17);
        // a shorter file in place of a longer one
        numbers(INT, false, 1, 2, 3);
        is(x.write(0, PLAIN, 1, false), 51);
        is(x.write(0, PACKED, 3, false), 23);
        is(x.byteAt(23), BAD);
        is(x.hex(), Hex.page(3, 5, "80 01 04 03 02 02 00 00 00 00").trim());
        // the tape, and what the latest read() told, stay
        x.type(0x41, 1);
        is(x.write(0, PLAIN, 1, false), 51);
        is(x.type(0x41, 1), 2);
        is(x.fault(2), 0);
    }

    private void writeIsBad() {
        says("Promise 13", "BAD: also the WAY (0 .. 2; 1 of a TRUTH), q (1 .. 200);");
        x.put(9, 1);
        for (int c : NO_COLUMNS) {
            is(x.write(c, PLAIN, 1, false), BAD);
            is(x.write(c, PLAIN, 1, true), BAD);
        }
        for (int kind = INT; kind <= TRUTH; kind++) {
            x.column(0, kind, true);
            for (int values = 0; values < 2; values++) {
                for (int way : new int[] {SMALLEST, -1, 3, 4, GREATEST}) {
                    is(x.write(0, way, 1, false), BAD);
                    is(x.write(0, way, 1, true), BAD);
                }
                for (int q : new int[] {SMALLEST, -1, 0, 201, GREATEST}) {
                    is(x.write(0, PLAIN, q, false), BAD);
                    is(x.write(0, PACKED, q, true), BAD);
                    is(x.write(0, DICTIONARY, q, true), BAD);
                }
                if (kind == TRUTH) {
                    is(x.write(0, DICTIONARY, 1, false), BAD);
                    is(x.write(0, DICTIONARY, 200, true), BAD);
                }
                x.addNone(0);
            }
            is(x.hex(), "09");
        }
        for (int way = PLAIN; way <= PACKED; way++) {
            numbers(LONG, false, 1);
            int one = x.write(0, way, 1, false);
            due("bytes of a page", one > 13 ? 1 : 0, 1);
            is(x.write(0, way, 200, false), one);
        }
    }

    /** Column 0: texts of these lengths, that are written by one to a page of 23 bytes and their own. */
    private void optionalTexts(int many, int length, int lastLength) {
        texts(true, "x".repeat(length));
        x.repeat(0, 1, many - 1);
        x.text(0, "y".repeat(lastLength));
    }

    private void writeIsFull() {
        says("Promise 13", "FULL: more than 12000.");
        optionalTexts(200, 37, 38);
        x.put(5, 1);
        is(x.write(0, PLAIN, 1, false), FULL);
        is(x.hex(), "05");
        optionalTexts(200, 37, 37);
        x.put(5, 1);
        is(x.write(0, PLAIN, 1, true), FULL);
        is(x.hex(), "05");
        is(x.write(0, PLAIN, 1, false), 12000);
        is(x.hex(11999, 12000), "79");
        optionalTexts(200, 40, 40);
        is(x.write(0, PLAIN, 1, false), FULL);
        is(x.write(0, PACKED, 1, false), FULL);
        is(x.size(), 0);
        is(x.write(0, PACKED, 200, false), 16 + 7 + 6 + 10 + 8000);
        // 14 bytes behind 11986, 11987
        optionalTexts(199, 37, 37);
        is(x.write(0, PLAIN, 1, false), 11940);
        for (int i = 0; i < 5; i++) {
            x.put(0, 8);
        }
        is(x.put(0, 6), 11986);
        x.column(1, TRUTH, false);
        x.add(1, 1);
        is(x.write(1, PLAIN, 1, true), 12000);
        is(x.hex(11986, 12000), ONE.trim());
        is(x.write(1, PLAIN, 1, true), FULL);
        is(x.size(), 12000);
        x.cut(11987);
        is(x.write(1, PLAIN, 1, true), FULL);
        is(x.size(), 11987);
        is(x.write(2, PLAIN, 1, true), 11987);
        is(x.put(0, 8), 11995);
        is(x.put(0, 5), 12000);
        is(x.write(2, PLAIN, 1, true), 12000);
        is(x.write(1, PLAIN, 1, false), 14);
    }

    // ---- read

    private void readAnswers() {
        says("Promise 14", "`int read(int c)`: THE FILE is READ as a COLUMN of its KIND, OPTIONAL or not as it is: how many "
            + "VALUES;");
        for (int c = 0; c < 4; c++) {
            x = new Pages();
            x.column(c, INT, c % 2 == 0);
            x.add(c, 77);
            is(x.read(c), 0);
            is(x.told(c, 2), 0);
            is(x.told(c, 1), (c + 1) % 2);
        }
        numbers(INT, true, 77);
        x.file(Hex.page(2, 0, "02 00 00 00 03 02 01 00 00 00") + Hex.page(1, 5, "02 00 00 00 03 01 80 01 04 01 04"));
        is(x.read(0), 3);
        is(x.told(0, 0), INT);
        is(x.told(0, 1), 1);
        is(x.has(0, 0), 0);
        is(x.value(0, 1), 1);
        is(x.value(0, 2), 2);
        is(x.size(), 23 + 24);
        x.column(2, INT, false);
        is(x.read(2), -23);
        x.column(2, INT, true);
        is(x.read(2), 3);
        is(x.alike(0, 2), 1);
        is(x.read(2), 3);
        for (int kind = INT; kind <= TRUTH; kind++) {
            roundTrips(kind);
        }
    }

    private void roundTrips(int kind) {
        numbers(kind, true);
        for (int i = 0; i < 20; i++) {
            if (i % 7 == 3) {
                x.addNone(0);
            } else if (kind == TEXT) {
                x.text(0, "text number ".substring(i % 9) + i * i % 5);
            } else {
                x.add(0, i * i % 5 - 2L);
            }
        }
        x.repeat(0, 20, 10);
        x.column(1, kind, true);
        for (int way = PLAIN; way <= PACKED; way++) {
            for (int q : new int[] {1, 7, 8, 9, 100, 199, 200}) {
                int bytes = x.write(0, way, q, false);
                if (bytes > 0) {
                    is(x.read(1), 200);
                    is(x.fault(0), 0);
                    is(x.fault(1), 0);
                    is(x.fault(2), (199 + q) / q + (way == DICTIONARY ? 1 : 0));
                    is(x.fault(3), way == DICTIONARY ? x.told(0, 4) : 0);
                    is(x.alike(0, 1), 1);
                }
            }
        }
    }

    /** Files that have each fault, for a column of INTS that is not optional, if nothing else is said. */
    private static final String[] FAULTY = {"",
        "15", "15 80 80 80 80 80 80 80 80 80 02", FIVE_SEVEN + Hex.page(1, 8, "01 00"), FIVE_SEVEN + Hex.page(1, 8, "01 02 02"),
        Hex.page(1, 5, "00"), Hex.page(2, 5, "80 01 04 02 00 00 21"), "16", "15 02", Hex.page(0, 0, "") + "15 04",
        "", FIVE_SEVEN + Hex.page(1, 8, "21"), FIVE_SEVEN + Hex.page(1, 8, "02 02 02"), Hex.page(0, 0, "00")};
    private static final int[] PLACES = {0, 1, 10, 35, 36, 13, 19, 0, 1, 13, 13, 34, 35, 13};
    private static final int[] WHOLE = {0, 0, 0, 1, 1, 0, 0, 0, 0, 1, 0, 1, 1, 0};

    private void readFaults() {
        says("Promise 14", "-10 less the FAULT");
        for (int fault = 1; fault <= 13; fault++) {
            if (fault == 10) {
                fault(TEXT, false, Hex.page(1, 0, "29 00 00 00 00"), 10, 13);
                fault(INT, true, Hex.page(1, 0, "29 00 00 00 00"), 10, 13);
            } else {
                fault(INT, false, FAULTY[fault], fault, PLACES[fault], WHOLE[fault], FAULTY[fault].startsWith(FIVE_SEVEN) ? 2 : 0);
            }
        }
    }

    private void valuesStay() {
        says("Promise 14", "(its VALUES stay).");
        numbers(INT, true, 9);
        x.addNone(0);
        x.file(Hex.page(1, 0, "02 00 00 00 03 01 01 00 00 00") + "16");
        is(x.read(0), -17);
        is(x.fault(1), 23);
        is(x.told(0, 2), 2);
        is(x.value(0, 0), 9);
        is(x.has(0, 1), 0);
        x.cut(23);
        is(x.read(0), 1);
        is(x.value(0, 0), 1);
        is(x.has(0, 1), BAD);
        texts(false, "abc", "");
        x.file(Hex.page(1, 0, "03 00 00 00 78 78 78") + Hex.page(1, 0, "29 00 00 00"));
        is(x.read(0), -20);
        hasTexts(0, "abc", "");
        x.cut(20);
        is(x.read(0), 1);
        hasTexts(0, "xxx");
        x.cut(0);
        is(x.read(0), 0);
        is(x.told(0, 2), 0);
    }

    private void readIsBad() {
        says("Promise 14", "BAD.");
        x.put(0x16, 1);
        for (int c : NO_COLUMNS) {
            is(x.read(c), BAD);
        }
        for (int what = 0; what < 4; what++) {
            is(x.fault(what), 0);
        }
    }

    // ---- fault

    private void everyFaultIsTold() {
        says("Promise 15", "`int fault(int what)`: Of the latest read() that was not BAD: 0 the FAULT (0: none), 1 its place,");
        x.put(0x16, 1);
        is(x.read(1), -17);
        is(x.fault(0), 7);
        is(x.fault(1), 0);
        x.cut(0);
        x.put(0x15, 1);
        is(x.fault(0), 7);
        is(x.read(1), -11);
        is(x.fault(0), 1);
        is(x.fault(1), 1);
        is(x.read(4), BAD);
        is(x.read(-1), BAD);
        is(x.fault(0), 1);
        is(x.fault(1), 1);
        x.cut(0);
        is(x.read(0), 0);
        is(x.fault(0), 0);
        is(x.fault(1), 0);
        is(x.read(4), BAD);
        is(x.fault(0), 0);
        // what comes behind a read() changes nothing of it
        x.put(0x15, 1);
        x.read(0);
        x.write(0, PLAIN, 1, false);
        x.column(0, TEXT, true);
        x.addNone(0);
        x.repeat(0, 1, 9);
        x.write(0, DICTIONARY, 1, false);
        x.cut(2);
        is(x.fault(0), 1);
        is(x.fault(1), 1);
        is(x.fault(2), 0);
        is(x.fault(3), 0);
    }

    private void wholePages() {
        says("Promise 15", "2 pages (also dictionaries) that were read whole,");
        StringBuilder pages = new StringBuilder(FIVE_SEVEN);
        for (int page = 1; page <= 20; page++) {
            numbers(INT, false);
            x.file(pages.toString());
            is(x.read(0), page - 1);
            is(x.fault(2), page);
            x.put(0x16, 1);
            is(x.read(0), -17);
            is(x.fault(2), page);
            pages.append(Hex.page(1, 8, "01 03 01"));
            x.file(pages.toString());
            x.cut(x.size() - 1);
            is(x.read(0), -11);
            is(x.fault(2), page);
        }
        // a page with bytes left over was not read whole
        numbers(INT, false);
        x.file(Hex.page(1, 0, "01 00 00 00") + Hex.page(1, 0, "01 00 00 00 00"));
        is(x.read(0), -23);
        is(x.fault(2), 1);
        x.file("");
        is(x.read(0), 0);
        is(x.fault(2), 0);
        x.column(1, INT, true);
        x.addNone(1);
        x.repeat(1, 1, 200);
        x.write(1, PLAIN, 1, false);
        is(x.read(1), 200);
        is(x.fault(2), 200);
    }

    private void valuesOfTheDictionary() {
        says("Promise 15", "3 values in the dictionary, once all of them were read (0 without one).");
        numbers(INT, false);
        x.file(FIVE_SEVEN);
        is(x.read(0), 0);
        is(x.fault(3), 2);
        x.file(FIVE_SEVEN + "16");
        is(x.read(0), -17);
        is(x.fault(3), 2);
        x.file(Hex.dictionary(2, "05 00 00 00 07 00 00"));
        is(x.read(0), -11);
        is(x.fault(3), 0);
        x.file(Hex.dictionary(2, "05 00 00 00"));
        is(x.read(0), -11);
        is(x.fault(3), 0);
        x.file(FIVE_SEVEN.substring(0, FIVE_SEVEN.length() - 3));
        is(x.read(0), -11);
        is(x.fault(3), 0);
        x.file(Hex.dictionary(2, "05 00 00 00 07 00 00 00 09"));
        is(x.read(0), -23);
        is(x.fault(2), 0);
        is(x.fault(3), 2);
        x.file(Hex.dictionary(0, ""));
        is(x.read(0), 0);
        is(x.fault(3), 0);
        x.file(FIVE_SEVEN);
        x.read(0);
        x.file(Hex.page(1, 0, "05 00 00 00"));
        is(x.read(0), 1);
        is(x.fault(3), 0);
        x.column(0, TEXT, false);
        x.file(Hex.dictionary(3, "01 00 00 00 61 01 00 00 00 62 02 00 00 00 63"));
        is(x.read(0), -20);
        is(x.fault(3), 0);
        x.file(Hex.dictionary(3, "01 00 00 00 61 01 00 00 00 62 01 00 00 00 62"));
        is(x.read(0), 0);
        is(x.fault(3), 3);
        x.file(Hex.dictionary(200, Hex.repeated("00", 800)));
        is(x.read(0), 0);
        is(x.fault(3), 200);
    }

    private void faultIsBad() {
        says("Promise 15", "BAD;");
        for (int what : new int[] {SMALLEST, -1, 4, 5, GREATEST}) {
            is(x.fault(what), BAD);
        }
        x.put(0x16, 1);
        x.read(0);
        for (int what : new int[] {SMALLEST, -1, 4, 5, GREATEST}) {
            is(x.fault(what), BAD);
        }
    }

    private void faultBeforeARead() {
        says("Promise 15", "0 of all before one.");
        for (int what = 0; what < 4; what++) {
            is(x.fault(what), 0);
        }
        x.add(0, 5);
        x.write(0, DICTIONARY, 1, false);
        x.read(-1);
        for (int what = 0; what < 4; what++) {
            is(x.fault(what), 0);
        }
    }

    // ---- the file

    private void size() {
        says("Promise 16", "`int size()`: How many bytes THE FILE has.");
        is(x.size(), 0);
        x.put(1, 1);
        is(x.size(), 1);
        x.put(1, 8);
        is(x.size(), 9);
        x.cut(4);
        is(x.size(), 4);
        x.add(0, 1);
        x.write(0, PLAIN, 1, true);
        is(x.size(), 21);
        x.write(0, PLAIN, 1, false);
        is(x.size(), 17);
        x.poke(0, 1);
        x.read(0);
        is(x.size(), 17);
        x.cut(0);
        is(x.size(), 0);
    }

    private void byteAt() {
        says("Promise 17", "`int byteAt(int i)`: Byte i of THE FILE. BAD: there is none.");
        is(x.byteAt(0), BAD);
        x.put(0xFF807F0100L, 5);
        int[] bytes = {0, 1, 127, 128, 255};
        for (int i = 0; i < 5; i++) {
            is(x.byteAt(i), bytes[i]);
        }
        for (int i : new int[] {SMALLEST, -1, 5, 11999, 12000, GREATEST}) {
            is(x.byteAt(i), BAD);
        }
        x.cut(3);
        is(x.byteAt(2), 127);
        is(x.byteAt(3), BAD);
    }

    private void poke() {
        says("Promise 18", "`int poke(int i, int mask)`: A byte of THE FILE becomes another one: it xor the lowest byte of a mask: "
            + "that. BAD.");
        is(x.poke(0, 1), BAD);
        x.put(0x0FFEL, 2);
        is(x.poke(0, 1), 0xFF);
        is(x.poke(0, 0x80), 0x7F);
        is(x.poke(0, 0x181), 0xFE);
        is(x.poke(1, -1), 0xF0);
        is(x.poke(1, 0xFF), 0x0F);
        is(x.poke(1, SMALLEST + 0x10), 0x1F);
        is(x.hex(), "fe 1f");
        for (int i : new int[] {SMALLEST, -1, 2, 3, 11999, 12000, GREATEST}) {
            is(x.poke(i, 1), BAD);
        }
        is(x.hex(), "fe 1f");
        x.cut(1);
        is(x.poke(1, 1), BAD);
        is(x.poke(0, 0xFE), 0);
    }

    private void cut() {
        says("Promise 19", "`int cut(int n)`: THE FILE has its first n bytes alone: how many went. BAD.");
        is(x.cut(0), 0);
        is(x.cut(1), BAD);
        x.put(0x0807060504030201L, 8);
        for (int n : new int[] {SMALLEST, -1, 9, 10, 12000, GREATEST}) {
            is(x.cut(n), BAD);
        }
        is(x.cut(8), 0);
        is(x.cut(7), 1);
        is(x.hex(), "01 02 03 04 05 06 07");
        is(x.cut(8), BAD);
        is(x.cut(2), 5);
        is(x.hex(), "01 02");
        is(x.put(9, 1), 3);
        is(x.hex(), "01 02 09");
        is(x.cut(0), 3);
        is(x.size(), 0);
        is(x.cut(1), BAD);
    }

    private void put() {
        says("Promise 20", "`int put(long w, int n)`: The n lowest bytes (1 .. 8) of w, the lowest first, come behind THE FILE: how "
            + "many it has.");
        long w = 0x8877665544332211L;
        String bytes = "11 22 33 44 55 66 77 88";
        for (int n = 1; n <= 8; n++) {
            x = new Pages();
            is(x.put(w, n), n);
            is(x.hex(), bytes.substring(0, 3 * n - 1));
            is(x.put(-2, 1), n + 1);
            is(x.byteAt(n), 254);
        }
    }

    private void putIsRefused() {
        says("Promise 20", "BAD; FULL.");
        for (int n : new int[] {SMALLEST, -1, 0, 9, 10, GREATEST}) {
            is(x.put(1, n), BAD);
        }
        is(x.size(), 0);
        for (int before = 11992; before <= 12000; before++) {
            optionalTexts(200, 37, 37);
            x.write(0, PLAIN, 1, false);
            x.cut(before);
            for (int n = 8; n > 12000 - before; n--) {
                is(x.put(0, n), FULL);
            }
            is(x.put(0, 0), BAD);
            is(x.put(0, 9), BAD);
            is(x.size(), before);
            if (before < 12000) {
                is(x.put(0x1817161514131211L, 12000 - before), 12000);
                is(x.byteAt(before), 0x11);
                is(x.byteAt(11999), 0x10 + 12000 - before);
            }
            is(x.put(0, 1), FULL);
            is(x.byteAt(12000), BAD);
        }
    }
}
