/** "Terms", 4 READ: each FAULT, its place, and which of two is met first. */
final class FaultsPart extends Part {
    private static final String NINE = Hex.repeated("80", 9);
    /** 150 TRUTHS of CODE 3: 21 bytes. */
    private static final String TRUTHS_150 = Hex.page(150, 3, "03 00 00 00 ac 02 01");

    FaultsPart(Check check, Document document) {
        super(check, document);
    }

    @Override
    void holds() {
        fromByte0ToTheEnd();
        asAColumnOfAKind();
        theFirstThatIsMet();
        headsEnd();
        bodiesEnd();
        levelsEnd();
        truthRunsEnd();
        fieldBytes();
        whatItIs();
        bytesOfTheBody();
        bytesAgain();
        howMany();
        howManyWithThoseBefore();
        howManyOfADictionary();
        codes();
        codeOfPlaces();
        codeOfADictionary();
        lateDictionary();
        bodyNotWhole();
        lengthOfLevels();
        lengthOfTruthRuns();
        lengthOfAText();
        lengthsOfTexts();
        widthOfPlaces();
        noSuchPlace();
        leftOverOfLevels();
        leftOverOfTruthRuns();
        leftOverOfABody();
        wholeNumbersInHeads();
    }

    private void fromByte0ToTheEnd() {
        says("Terms 4", "==== 4 READ as a COLUMN of a KIND, OPTIONAL or not, from byte 0 to the end of THE FILE.");
        for (int kind = INT; kind <= TRUTH; kind++) {
            sound(kind, kind % 2 == 0, "", 0, 0, 0);
        }
        fault(INT, false, "00 " + Hex.page(1, 0, "01 00 00 00"), 7, 0);
        fault(INT, false, Hex.page(1, 0, "01 00 00 00") + "00", 7, 17, 1, 0);
        sound(INT, false, Hex.page(1, 0, "01 00 00 00"), 1);
        hasNumbers(0, 1);
    }

    private void asAColumnOfAKind() {
        String eight = Hex.page(2, 0, "01 00 00 00 00 00 00 00");
        sound(INT, false, eight, 2);
        fault(LONG, false, eight, 1, 21);
        fault(TEXT, false, eight, 1, 21);
        fault(TRUTH, false, eight, 13, 14);
        fault(INT, true, eight, 3, 17);
        sound(LONG, false, Hex.page(1, 0, "01 00 00 00 00 00 00 00"), 1);
        sound(TEXT, false, Hex.page(2, 0, "00 00 00 00 00 00 00 00"), 2);
    }

    private void theFirstThatIsMet() {
        says("Terms 4", "FAULTS, the first that is met, byte by byte; their places:");
        // of two pages the fault of the first one, of a page that of its HEAD
        fault(INT, false, Hex.page(1, 0, "01 00 00") + "16", 1, 16);
        fault(INT, false, Hex.page(1, 0, "01 00 00 00 00") + Hex.page(1, 0, ""), 13, 17);
        fault(INT, false, Hex.page(1, 6, "01 00 00"), 8, 10);
        fault(INT, false, "15 02 16", 8, 1);
        fault(INT, false, "16 02 15", 7, 0);
        // a VAR that is too wide ahead of what it would tell
        fault(INT, false, "15 " + NINE + "03", 2, 10);
        fault(INT, false, "15 00 15 " + NINE + "7f", 2, 12);
        // LEVELS ahead of values, their RUNS ahead of what is left over of them
        fault(INT, true, Hex.page(1, 0, "03 00 00 00 03 01 00 01"), 13, 19);
        fault(INT, true, Hex.page(3, 0, "03 00 00 00 00 01 00 01"), 3, 17);
        fault(INT, true, Hex.page(3, 5, "02 00 00 00 06 02 81"), 4, 18);
        // RUNS are read whole ahead of places that there are not, these are looked at ahead of what is left over
        fault(INT, false, FIVE_SEVEN + Hex.page(2, 8, "08 02 02 00"), 3, 37, 1, 2);
        fault(INT, false, FIVE_SEVEN + Hex.page(2, 8, "08 02 02 02"), 1, 38, 1, 2);
        fault(INT, false, FIVE_SEVEN + Hex.page(2, 8, "07 02 02 02 80"), 4, 38, 1, 2);
        fault(INT, false, FIVE_SEVEN + Hex.page(2, 8, "08 04 02 00"), 12, 35, 1, 2);
        fault(INT, false, FIVE_SEVEN + Hex.page(2, 8, "21 00"), 11, 34, 1, 2);
        // DIFFERENCES of lengths are read whole ahead of what they tell
        fault(TEXT, false, Hex.page(2, 6, "80 01 04 02 01 00 00"), 1, 20);
        fault(TEXT, false, Hex.page(2, 6, "80 01 04 02 01 00 21 00"), 6, 19);
        fault(TEXT, false, Hex.page(2, 6, "80 01 04 02 01 00 01 00 00 00 00"), 1, 24);
        fault(TEXT, false, Hex.page(2, 6, "80 01 04 02 01 00 00 00 00 00 00"), 10, 23);
        // a text's length ahead of its bytes, a text ahead of the next one
        fault(TEXT, false, Hex.page(2, 0, "29 00 00 00 05 00 00 00"), 10, 13);
        fault(TEXT, false, Hex.page(2, 0, "01 00 00 00 61 ff ff ff"), 1, 21);
    }

    // ---- FAULT 1

    private void headsEnd() {
        says("Terms 4", "1 (where the byte would be) bytes end: of a HEAD those of THE FILE;");
        String[] pages = {"15 00 15 00 15 00 2c 15 00 15 00 00 00", "15 04 15 00 15 00 4c 15 00 15 00 00 00"};
        for (String page : pages) {
            for (int bytes = 1; bytes < 13; bytes++) {
                fault(INT, false, page.substring(0, 3 * bytes - 1), 1, bytes);
            }
            sound(INT, false, page, 0);
        }
        fault(INT, false, pages[0] + " 15", 1, 14, 1, 0);
        fault(INT, false, pages[0] + " " + pages[0] + " 15 00 15", 1, 29, 2, 0);
        fault(INT, false, "15 80", 1, 2);
        fault(INT, false, "15 80 80 80 80 80 80 80 80 80", 1, 10);
        fault(INT, false, "15 00 15 82", 1, 4);
        // the last page that fits ends where THE FILE ends: then there is no HEAD
        sound(INT, false, pages[0] + " " + pages[0], 0, 2, 0);
    }

    private void bodiesEnd() {
        says("Terms 4", "of a BODY its own,");
        String more = Hex.page(0, 0, "");
        for (int bytes = 0; bytes < 4; bytes++) {
            fault(INT, false, Hex.page(1, 0, Hex.repeated("01", bytes)) + more, 1, 13 + bytes);
            fault(TEXT, false, Hex.page(1, 0, Hex.repeated("00", bytes)) + more, 1, 13 + bytes);
            fault(INT, true, Hex.page(1, 0, Hex.repeated("00", bytes)) + more, 1, 13 + bytes);
            fault(TRUTH, false, Hex.page(1, 3, Hex.repeated("00", bytes)) + more, 1, 13 + bytes);
            fault(INT, false, Hex.dictionary(1, Hex.repeated("01", bytes)) + more, 1, 13 + bytes);
        }
        for (int bytes = 0; bytes < 8; bytes++) {
            fault(LONG, false, Hex.page(2, 0, Hex.repeated("01", 8 + bytes)) + more, 1, 21 + bytes);
        }
        fault(TRUTH, false, Hex.page(9, 0, "ff") + more, 1, 14);
        fault(TRUTH, false, Hex.page(1, 0, "") + more, 1, 13);
        fault(TRUTH, false, Hex.page(200, 0, Hex.repeated("ff", 24)) + more, 1, 14 + 24);
        fault(INT, false, Hex.page(1, 5, "80 01 04 01") + more, 1, 17);
        fault(INT, false, FIVE_SEVEN + Hex.page(1, 8, "") + more, 1, 34, 1, 2);
        fault(INT, false, FIVE_SEVEN + Hex.page(1, 8, "01") + more, 1, 35, 1, 2);
        fault(INT, false, FIVE_SEVEN + Hex.page(1, 8, "01 02") + more, 1, 36, 1, 2);
        fault(INT, false, FIVE_SEVEN + Hex.page(1, 8, "01 03") + more, 1, 36, 1, 2);
        fault(INT, false, FIVE_SEVEN + Hex.page(2, 8, "01 02 01") + more, 1, 37, 1, 2);
    }

    private void levelsEnd() {
        says("Terms 4", "of LEVELS,");
        fault(INT, true, Hex.page(1, 0, "00 00 00 00 03 01 05 00 00 00"), 1, 17);
        fault(INT, true, Hex.page(1, 0, "01 00 00 00 03 01 05 00 00 00"), 1, 18);
        fault(INT, true, Hex.page(3, 0, "02 00 00 00 02 01 04 01 00 00"), 1, 19);
        fault(INT, true, Hex.page(9, 0, "02 00 00 00 05 01 05 00 00 00"), 1, 19);
        fault(INT, true, Hex.page(9, 0, "01 00 00 00 86 00 05 00 00 00"), 1, 18);
        // behind LEVELS the bytes are those of the BODY again
        fault(INT, true, Hex.page(1, 0, "02 00 00 00 03 01 05 00 00") + Hex.page(0, 0, ""), 1, 22);
    }

    private void truthRunsEnd() {
        says("Terms 4", "of CODE 3's RUNS their own.");
        fault(TRUTH, false, Hex.page(3, 3, "00 00 00 00 06 01"), 1, 17);
        fault(TRUTH, false, Hex.page(3, 3, "01 00 00 00 06 01"), 1, 18);
        fault(TRUTH, false, Hex.page(3, 3, "02 00 00 00 04 01 02 01"), 1, 19);
        fault(TRUTH, true, Hex.page(1, 3, "02 00 00 00 03 01 01 00 00 00 03 01"), 1, 24);
        says("Terms 4", "2 to 6 as told.");
        fault(TRUTH, false, Hex.page(3, 3, "0a 00 00 00 " + NINE + "02"), 2, 26);
        fault(TRUTH, false, Hex.page(3, 3, "02 00 00 00 08 01"), 3, 17);
        fault(TRUTH, false, Hex.page(3, 3, "02 00 00 00 06 02"), 4, 18);
        fault(INT, false, Hex.page(1, 5, "81 01 04 01 00"), 5, 13);
        fault(INT, false, Hex.page(2, 5, "80 01 04 02 00 00 21 00 00 00"), 6, 19);
    }

    // ---- FAULT 7

    private void fieldBytes() {
        says("Terms 4", "7 (at that byte) a FIELD's byte, or a 0, is not the one that is to come.");
        int[] fields = {0, 2, 4, 6, 7, 9, 11, 12};
        String[] pages = {Hex.page(1, 0, "01 00 00 00"), Hex.page(0, 0, ""), Hex.dictionary(1, "01 00 00 00"),
            Hex.dictionary(0, "")};
        for (String page : pages) {
            for (int i : fields) {
                for (int bit = 0; bit < 8; bit++) {
                    int[] bytes = Hex.bytes(page);
                    bytes[i] ^= 1 << bit;
                    StringBuilder changed = new StringBuilder();
                    for (int b : bytes) {
                        changed.append(Hex.byteOf(b)).append(' ');
                    }
                    fault(INT, false, changed.toString(), 7, i);
                    // at that byte: also if it is the last one
                    if (Hex.length(page) == 13) {
                        fault(INT, false, changed.substring(0, 3 * i + 2), 7, i);
                    }
                }
            }
        }
        fault(INT, false, "15 04 15 00 15 00 2c 15 00 15 00 00 00", 7, 6);
        fault(INT, false, "15 00 15 00 15 00 4c 15 00 15 00 00 00", 7, 6);
        fault(INT, false, Hex.page(0, 0, "") + "00", 7, 13, 1, 0);
        fault(INT, false, "25 00", 7, 0);
        fault(INT, false, "15 00 25 00", 7, 2);
    }

    // ---- FAULT 8

    private void whatItIs() {
        says("Terms 4", "8 (where its ZIG begins, when it was read) FIELD 1 is not 0, 2 (2 of a TRUTH).");
        for (int kind = INT; kind <= TRUTH; kind++) {
            for (int what = -3; what <= 4; what++) {
                boolean good = what == 0 || what == 2 && kind != TRUTH;
                String hex = "15 " + Hex.zig(what);
                fault(kind, false, hex, good ? 1 : 8, good ? 2 : 1);
                fault(kind, true, hex + "16", good ? 7 : 8, good ? 2 : 1);
            }
        }
        fault(INT, false, Hex.page(0, 0, "") + "15 02", 8, 14, 1, 0);
        fault(INT, false, "15 81", 1, 2);
    }

    private void bytesOfTheBody() {
        says("Terms 4", "FIELD 2 is below 0, or more than THE FILE has behind this ZIG.");
        fault(INT, false, "15 00 15 01", 8, 3);
        fault(INT, false, "15 00 15 01 15 01 2c 15 00 15 00 00 00", 8, 3);
        fault(INT, false, "15 00 15 00", 1, 4);
        fault(INT, false, "15 00 15 02", 8, 3);
        fault(INT, false, "15 00 15 02 15", 1, 5);
        fault(INT, false, "15 00 15 04 15", 8, 3);
        fault(INT, false, "15 00 15 04 15 04", 1, 6);
        fault(INT, false, "15 00 15 06 15 06", 8, 3);
        fault(INT, false, "15 00 15 82 00 15", 1, 6);
        fault(INT, false, "15 00 15 84 00 15", 8, 3);
        fault(INT, false, "15 04 15 02", 8, 3);
        fault(INT, false, "15 04 15 01", 8, 3);
        fault(INT, false, Hex.page(0, 0, "") + "15 00 15 02 15", 1, 18, 1, 0);
        fault(INT, false, Hex.page(0, 0, "") + "15 00 15 04 15", 8, 16, 1, 0);
        fault(INT, false, "15 00 15 " + Hex.zig(Long.MAX_VALUE) + "15", 8, 3);
        fault(INT, false, "15 00 15 " + Hex.zig(Long.MIN_VALUE) + "15", 8, 3);
    }

    private void bytesAgain() {
        says("Terms 4", "FIELD 3 is not FIELD 2.");
        fault(INT, false, "15 00 15 02 15 00", 8, 5);
        fault(INT, false, "15 00 15 02 15 04", 8, 5);
        fault(INT, false, "15 00 15 02 15 01", 8, 5);
        fault(INT, false, "15 00 15 00 15 02", 8, 5);
        fault(INT, false, "15 00 15 02 15 02", 1, 6);
        fault(INT, false, "15 04 15 02 15 04", 8, 5);
        fault(INT, false, "15 00 15 08 15 0a 2c 15 02 15 00 00 00 01 00 00 00 00", 8, 5);
        fault(INT, false, "15 00 15 02 15 82 80 80 80 20", 8, 5);
        sound(INT, false, "15 00 15 08 15 88 00 2c 15 02 15 00 00 00 01 00 00 00", 1);
    }

    private void howMany() {
        says("Terms 4", "How many is below 0, above 200,");
        for (int kind = INT; kind <= TRUTH; kind++) {
            String lead = "15 00 15 00 15 00 2c 15 ";
            fault(kind, false, lead + Hex.zig(-1), 8, 8);
            fault(kind, false, lead + Hex.zig(0), 1, 9);
            fault(kind, false, lead + Hex.zig(200), 1, 10);
            fault(kind, false, lead + Hex.zig(201), 8, 8);
            fault(kind, false, lead + Hex.zig(201) + "16", 8, 8);
            fault(kind, false, lead + Hex.zig(Long.MAX_VALUE), 8, 8);
            fault(kind, false, lead + Hex.zig(Long.MIN_VALUE), 8, 8);
            fault(kind, false, lead + Hex.zig(1L << 32), 8, 8);
        }
        sound(TRUTH, false, Hex.page(200, 3, "03 00 00 00 90 03 01"), 200);
        fault(TRUTH, false, Hex.page(201, 3, "03 00 00 00 92 03 01"), 8, 8);
        fault(TRUTH, true, Hex.page(201, 0, "03 00 00 00 92 03 00"), 8, 8);
    }

    private void howManyWithThoseBefore() {
        says("Terms 4", "or (data) above 200 with the VALUES read so far.");
        fault(TRUTH, false, TRUTHS_150 + "15 00 15 00 15 00 2c 15 " + Hex.zig(50), 1, 30, 1, 0);
        fault(TRUTH, false, TRUTHS_150 + "15 00 15 00 15 00 2c 15 " + Hex.zig(51), 8, 29, 1, 0);
        fault(TRUTH, false, TRUTHS_150 + "15 00 15 00 15 00 2c 15 " + Hex.zig(-1), 8, 29, 1, 0);
        String fifty = Hex.page(50, 3, "02 00 00 00 64 00");
        sound(TRUTH, false, TRUTHS_150 + fifty, 200, 2, 0);
        is(x.value(0, 149), 1);
        is(x.value(0, 150), 0);
        sound(TRUTH, false, TRUTHS_150 + fifty + Hex.page(0, 0, ""), 200, 3, 0);
        fault(TRUTH, false, TRUTHS_150 + fifty + Hex.page(1, 0, "01"), 8, 48, 2, 0);
        // absent ones count, values of a dictionary do not
        String absent = Hex.page(200, 0, "03 00 00 00 90 03 00");
        fault(INT, true, absent + Hex.page(1, 0, "02 00 00 00 03 00"), 8, 21 + 8, 1, 0);
        String dictionary = Hex.dictionary(200, Hex.repeated("01", 800));
        sound(INT, false, dictionary + Hex.page(200, 8, "00 90 03"), 200, 2, 200);
    }

    private void howManyOfADictionary() {
        for (int kind = INT; kind <= TEXT; kind++) {
            String lead = "15 04 15 00 15 00 4c 15 ";
            fault(kind, false, lead + Hex.zig(-1), 8, 8);
            fault(kind, false, lead + Hex.zig(0), 1, 9);
            fault(kind, false, lead + Hex.zig(200), 1, 10);
            fault(kind, false, lead + Hex.zig(201), 8, 8);
        }
        sound(TEXT, false, Hex.dictionary(200, Hex.repeated("00", 800)), 0, 1, 200);
        fault(TEXT, false, Hex.dictionary(201, Hex.repeated("00", 804)), 8, 10);
    }

    private void codes() {
        says("Terms 4", "CODE: of data none that the KIND has,");
        for (int kind = INT; kind <= TRUTH; kind++) {
            for (int code = -2; code < 12; code++) {
                boolean good = code == 0 || code == (kind == TEXT ? 6 : kind == TRUTH ? 3 : 5);
                String head = "15 00 15 00 15 00 2c 15 00 15 " + Hex.zig(code);
                fault(kind, false, head, good ? 1 : 8, good ? 11 : 10);
                fault(kind, true, head + "01", good ? 7 : 8, good ? 11 : 10);
            }
        }
    }

    private void codeOfPlaces() {
        says("Terms 4", "or 8 without a dictionary;");
        for (int kind = INT; kind <= TEXT; kind++) {
            fault(kind, false, Hex.page(0, 8, "00"), 8, 10);
            fault(kind, false, Hex.page(0, 0, "") + Hex.page(0, 8, "00"), 8, 23, 1, 0);
            sound(kind, false, Hex.dictionary(0, "") + Hex.page(0, 8, "00"), 0, 2, 0);
            sound(kind, false, Hex.dictionary(0, "") + Hex.page(0, 0, "") + Hex.page(0, 8, "00"), 0, 3, 0);
            for (int code = 1; code < 12; code++) {
                boolean good = code == (kind == TEXT ? 6 : 5) || code == 8;
                fault(kind, false, Hex.dictionary(0, "") + "15 00 15 00 15 00 2c 15 00 15 " + Hex.zig(code), good ? 1 : 8,
                    good ? 24 : 23, 1, 0);
            }
        }
        fault(TRUTH, false, Hex.page(0, 8, "00"), 8, 10);
        // the dictionary of an earlier read() is none
        numbers(INT, false);
        x.file(FIVE_SEVEN);
        is(x.read(0), 0);
        is(x.fault(3), 2);
        x.file(Hex.page(1, 8, "00 02"));
        is(x.read(0), -18);
        is(x.fault(1), 10);
        is(x.fault(3), 0);
    }

    private void codeOfADictionary() {
        says("Terms 4", "of a dictionary not 0.");
        for (int kind = INT; kind <= TEXT; kind++) {
            for (int code = -2; code < 12; code++) {
                fault(kind, false, "15 04 15 00 15 00 4c 15 00 15 " + Hex.zig(code), code == 0 ? 1 : 8, code == 0 ? 11 : 10);
            }
        }
    }

    /** ZIGS of a HEAD are not cut to ints. */
    private void wholeNumbersInHeads() {
        long beyond = 1L << 32;
        fault(INT, false, "15 " + Hex.zig(beyond), 8, 1);
        fault(INT, false, "15 " + Hex.zig(beyond + 2), 8, 1);
        fault(INT, false, "15 00 15 " + Hex.zig(beyond), 8, 3);
        fault(INT, false, "15 00 15 00 15 " + Hex.zig(beyond), 8, 5);
        fault(INT, false, "15 00 15 00 15 00 2c 15 " + Hex.zig(beyond), 8, 8);
        fault(INT, false, "15 00 15 00 15 00 2c 15 " + Hex.zig(-beyond), 8, 8);
        fault(INT, false, "15 00 15 00 15 00 2c 15 00 15 " + Hex.zig(beyond), 8, 10);
        fault(INT, false, "15 00 15 00 15 00 2c 15 00 15 " + Hex.zig(beyond + 5), 8, 10);
        fault(INT, false, "15 04 15 00 15 00 4c 15 00 15 " + Hex.zig(beyond), 8, 10);
    }

    // ---- FAULT 9, the BODY

    private void lateDictionary() {
        says("Terms 4", "9 (where its HEAD begins, when FIELD 1 was read) a dictionary that is not the first page.");
        for (int kind = INT; kind <= TEXT; kind++) {
            fault(kind, false, Hex.page(0, 0, "") + "15 04", 9, 13, 1, 0);
            fault(kind, false, Hex.page(0, 0, "") + "15 84 00 16", 9, 13, 1, 0);
            fault(kind, false, Hex.page(0, 0, "") + "15 84", 1, 15, 1, 0);
            fault(kind, false, Hex.page(0, 0, "") + Hex.dictionary(0, ""), 9, 13, 1, 0);
            sound(kind, false, Hex.dictionary(0, ""), 0);
        }
        fault(INT, false, FIVE_SEVEN + FIVE_SEVEN, 9, 21, 1, 2);
        fault(INT, false, FIVE_SEVEN + Hex.page(1, 8, "00 02") + FIVE_SEVEN, 9, 36, 2, 2);
        fault(INT, false, Hex.page(0, 0, "") + "15 06", 8, 14, 1, 0);
        fault(TRUTH, false, Hex.page(0, 0, "") + "15 04", 8, 14, 1, 0);
    }

    private void bodyNotWhole() {
        says("Terms 4", "1 (the end of THE FILE, right behind the HEAD) the BODY is not there whole.");
        String head = "15 00 15 08 15 08 2c 15 02 15 00 00 00 ";
        fault(INT, false, head, 1, 13);
        fault(INT, false, head + "01", 1, 14);
        fault(INT, false, head + "01 00 00", 1, 16);
        sound(INT, false, head + "01 00 00 00", 1);
        fault(INT, false, "15 00 15 08 15 08 2c 15 02 15 00 00", 1, 12);
        fault(INT, false, "15 00 15 08 15 08 2c 15 02 15 00 00 01", 7, 12);
        fault(INT, false, "15 04 15 08 15 08 4c 15 02 15 00 00 00 01", 1, 14);
        // ahead of what is wrong in the BODY
        fault(INT, true, "15 00 15 14 15 14 2c 15 02 15 00 00 00 ff ff ff ff", 1, 17);
        fault(TEXT, false, "15 00 15 0e 15 0e 2c 15 02 15 00 00 00 ff ff ff ff 00 00", 1, 19);
        fault(INT, false, "15 00 15 0c 15 0c 2c 15 02 15 0a 00 00 81 01 04 01 00", 1, 18);
        fault(INT, false, Hex.page(0, 0, "") + head + "01 00 00", 1, 29, 1, 0);
    }

    // ---- FAULT 10

    private void lengthOfLevels() {
        says("Terms 4", "10 (where it is, when it was read) a length of LEVELS, of CODE 3: below 0, or more than the BODY has "
            + "behind it;");
        for (int kind = INT; kind <= TRUTH; kind++) {
            fault(kind, true, Hex.page(1, 0, "ff ff ff ff 03 00"), 10, 13);
            fault(kind, true, Hex.page(1, 0, "00 00 00 80 03 00"), 10, 13);
            fault(kind, true, Hex.page(1, 0, "03 00 00 00 03 00"), 10, 13);
            sound(kind, true, Hex.page(1, 0, "02 00 00 00 03 00"), 1);
            fault(kind, true, Hex.page(1, 0, "01 00 00 00"), 10, 13);
            fault(kind, true, Hex.page(0, 0, "01 00 00 00"), 10, 13);
            fault(kind, true, Hex.page(1, 0, "03 00 00"), 1, 16);
            fault(kind, true, Hex.page(1, 0, "02 01 00 00 03 00"), 10, 13);
            fault(kind, true, Hex.page(1, 0, "02 00 01 00 03 00"), 10, 13);
            fault(kind, true, Hex.page(1, 0, "02 00 00 01 03 00"), 10, 13);
            // the next page is not of this BODY
            fault(kind, true, Hex.page(1, 0, "03 00 00 00 03 00") + Hex.page(0, 0, "00 00 00 00"), 10, 13);
        }
        fault(INT, true, FIVE_SEVEN + Hex.page(1, 8, "03 00 00 00 03 00"), 10, 34, 1, 2);
    }

    private void lengthOfTruthRuns() {
        fault(TRUTH, false, Hex.page(3, 3, "ff ff ff ff 06 01"), 10, 13);
        fault(TRUTH, false, Hex.page(3, 3, "00 00 00 80 06 01"), 10, 13);
        fault(TRUTH, false, Hex.page(3, 3, "03 00 00 00 06 01"), 10, 13);
        fault(TRUTH, false, Hex.page(3, 3, "03 00 00 00 06 01") + Hex.page(0, 0, ""), 10, 13);
        sound(TRUTH, false, Hex.page(3, 3, "02 00 00 00 06 01"), 3);
        fault(TRUTH, false, Hex.page(3, 3, "03 00 00"), 1, 16);
        fault(TRUTH, true, Hex.page(3, 3, "02 00 00 00 06 01 03 00 00 00 06 01"), 10, 19);
        fault(TRUTH, true, Hex.page(3, 3, "02 00 00 00 06 01 ff ff ff ff 06 01"), 10, 19);
    }

    private void lengthOfAText() {
        says("Terms 4", "of a TEXT (PLAIN) this, or above 40.");
        String forty = Hex.repeated("41", 40);
        fault(TEXT, false, Hex.page(1, 0, "ff ff ff ff 61"), 10, 13);
        fault(TEXT, false, Hex.page(1, 0, "00 00 00 80 61"), 10, 13);
        fault(TEXT, false, Hex.page(1, 0, "02 00 00 00 61"), 10, 13);
        fault(TEXT, false, Hex.page(1, 0, "02 00 00 00 61") + Hex.page(0, 0, ""), 10, 13);
        fault(TEXT, false, Hex.page(1, 0, "01 00 00 00"), 10, 13);
        sound(TEXT, false, Hex.page(1, 0, "01 00 00 00 61"), 1);
        sound(TEXT, false, Hex.page(1, 0, "28 00 00 00 " + forty), 1);
        hasTexts(0, "A".repeat(40));
        fault(TEXT, false, Hex.page(1, 0, "28 00 00 00 " + forty.substring(3)), 10, 13);
        fault(TEXT, false, Hex.page(1, 0, "29 00 00 00 " + forty + "41"), 10, 13);
        fault(TEXT, false, Hex.page(1, 0, "00 01 00 00 " + forty), 10, 13);
        fault(TEXT, false, Hex.page(2, 0, "01 00 00 00 61 02 00 00 00 61"), 10, 18);
        fault(TEXT, false, Hex.page(2, 0, "01 00 00 00 61 01 00 00"), 1, 21);
        fault(TEXT, false, Hex.dictionary(1, "29 00 00 00 " + forty + "41"), 10, 13);
        fault(TEXT, false, Hex.dictionary(1, "02 00 00 00 61"), 10, 13);
        fault(TEXT, false, Hex.dictionary(1, "ff ff ff ff 61"), 10, 13);
        sound(TEXT, false, Hex.dictionary(1, "28 00 00 00 " + forty), 0, 1, 1);
        fault(TEXT, true, Hex.page(1, 0, "02 00 00 00 03 01 02 00 00 00 61"), 10, 19);
    }

    private void lengthsOfTexts() {
        says("Terms 4", "Of CODE 6 (where the DIFFERENCES end): some length below 0 or above 40, or all together more than the BODY "
            + "has left.");
        String lead = "80 01 04 ";
        fault(TEXT, false, Hex.page(1, 6, lead + "01 01 "), 10, 18);
        fault(TEXT, false, Hex.page(1, 6, lead + "01 01 61"), 10, 18);
        sound(TEXT, false, Hex.page(1, 6, lead + "01 00"), 1);
        sound(TEXT, false, Hex.page(1, 6, lead + "01 50 " + Hex.repeated("41", 40)), 1);
        hasTexts(0, "A".repeat(40));
        fault(TEXT, false, Hex.page(1, 6, lead + "01 52 " + Hex.repeated("41", 41)), 10, 18);
        fault(TEXT, false, Hex.page(1, 6, lead + "01 02"), 10, 18);
        fault(TEXT, false, Hex.page(1, 6, lead + "01 04 61"), 10, 18);
        fault(TEXT, false, Hex.page(1, 6, lead + "01 04 61") + Hex.page(0, 0, ""), 10, 18);
        sound(TEXT, false, Hex.page(1, 6, lead + "01 04 61 62"), 1);
        // lengths 1, 2; 1, 0; 1, -1; 40, 41; 41, 40; -1, 1
        fault(TEXT, false, Hex.page(2, 6, lead + "02 02 02 00 00 00 00 61 61"), 10, 23);
        sound(TEXT, false, Hex.page(2, 6, lead + "02 02 02 00 00 00 00 61 61 61"), 2);
        sound(TEXT, false, Hex.page(2, 6, lead + "02 02 01 00 00 00 00 61"), 2);
        fault(TEXT, false, Hex.page(2, 6, lead + "02 02 03 00 00 00 00 61"), 10, 23);
        fault(TEXT, false, Hex.page(2, 6, lead + "02 50 02 00 00 00 00 " + Hex.repeated("41", 81)), 10, 25);
        fault(TEXT, false, Hex.page(2, 6, lead + "02 52 01 00 00 00 00 " + Hex.repeated("41", 81)), 10, 25);
        fault(TEXT, false, Hex.page(2, 6, lead + "02 01 04 00 00 00 00 61"), 10, 23);
        sound(TEXT, false, Hex.page(2, 6, lead + "02 50 00 00 00 00 00 " + Hex.repeated("41", 80)), 2);
        // lengths that are far below and far above 0: together they are few
        fault(TEXT, false, Hex.page(3, 6, lead + "03 " + Hex.zig(GREATEST) + Hex.zig(1) + "00 00 00 00"), 10,
            13 + 4 + 5 + 1 + 4);
        fault(TEXT, true, Hex.page(2, 6, "02 00 00 00 03 01 " + lead + "01 02"), 10, 24);
    }

    // ---- FAULTS 11, 12

    private void widthOfPlaces() {
        says("Terms 4", "11 (at w) above 32.");
        sound(INT, false, FIVE_SEVEN + Hex.page(3, 8, "20 06 01 00 00 00"), 3, 2, 2);
        fault(INT, false, FIVE_SEVEN + Hex.page(3, 8, "21 06 01 00 00 00 00"), 11, 34, 1, 2);
        fault(INT, false, FIVE_SEVEN + Hex.page(3, 8, "40 06 01 00 00 00 00 00 00 00"), 11, 34, 1, 2);
        fault(INT, false, FIVE_SEVEN + Hex.page(3, 8, "80"), 11, 34, 1, 2);
        fault(INT, false, FIVE_SEVEN + Hex.page(3, 8, "ff"), 11, 34, 1, 2);
        fault(INT, false, FIVE_SEVEN + Hex.page(0, 8, "21"), 11, 34, 1, 2);
        sound(INT, false, FIVE_SEVEN + Hex.page(0, 8, "20"), 0, 2, 2);
        fault(INT, true, FIVE_SEVEN + Hex.page(1, 8, "02 00 00 00 03 00 21"), 11, 40, 1, 2);
    }

    private void noSuchPlace() {
        says("Terms 4", "12 (where its RUNS begin, when they were read) a place that the dictionary has not.");
        sound(INT, false, FIVE_SEVEN + Hex.page(3, 8, "08 06 01"), 3, 2, 2);
        hasNumbers(0, 7, 7, 7);
        fault(INT, false, FIVE_SEVEN + Hex.page(3, 8, "08 06 02"), 12, 35, 1, 2);
        fault(INT, false, FIVE_SEVEN + Hex.page(3, 8, "08 04 01 02 02"), 12, 35, 1, 2);
        fault(INT, false, FIVE_SEVEN + Hex.page(3, 8, "08 02 02 04 01"), 12, 35, 1, 2);
        fault(INT, false, FIVE_SEVEN + Hex.page(3, 8, "02 03 20 00"), 12, 35, 1, 2);
        fault(INT, false, FIVE_SEVEN + Hex.page(3, 8, "20 06 ff ff ff ff"), 12, 35, 1, 2);
        fault(INT, false, FIVE_SEVEN + Hex.page(3, 8, "20 06 00 00 00 80"), 12, 35, 1, 2);
        fault(INT, false, FIVE_SEVEN + Hex.page(3, 8, "20 06 01 00 01 00"), 12, 35, 1, 2);
        fault(INT, false, Hex.dictionary(0, "") + Hex.page(1, 8, "00 02"), 12, 27, 1, 0);
        fault(INT, false, Hex.dictionary(0, "") + Hex.page(8, 8, "00 10"), 12, 27, 1, 0);
        sound(INT, false, Hex.dictionary(0, "") + Hex.page(0, 8, "00"), 0, 2, 0);
        fault(INT, true, FIVE_SEVEN + Hex.page(2, 8, "02 00 00 00 03 01 08 02 02"), 12, 41, 1, 2);
        // 200 values: places up to 199
        String dictionary = Hex.dictionary(200, Hex.repeated("01", 800));
        int runs = Hex.length(dictionary) + 14;
        sound(INT, false, dictionary + Hex.page(1, 8, "08 02 c7"), 1, 2, 200);
        fault(INT, false, dictionary + Hex.page(1, 8, "08 02 c8"), 12, runs, 1, 200);
    }

    // ---- FAULT 13

    private void leftOverOfLevels() {
        says("Terms 4", "13 (at the first) bytes are left over: of LEVELS,");
        fault(INT, true, Hex.page(1, 0, "03 00 00 00 03 00 07"), 13, 19);
        fault(INT, true, Hex.page(1, 0, "05 00 00 00 03 00 07 07 07"), 13, 19);
        fault(INT, true, Hex.page(0, 0, "01 00 00 00 00"), 13, 17);
        fault(INT, true, Hex.page(1, 0, "03 00 00 00 03 01 07 01 00 00"), 13, 19);
        sound(INT, true, Hex.page(1, 0, "02 00 00 00 03 01 07 01 00 00"), 1);
        hasNumbers(0, 263);
    }

    private void leftOverOfTruthRuns() {
        says("Terms 4", "of CODE 3's RUNS, behind these;");
        fault(TRUTH, false, Hex.page(3, 3, "03 00 00 00 06 01 00"), 13, 19);
        fault(TRUTH, false, Hex.page(3, 3, "04 00 00 00 06 01 02 01"), 13, 19);
        fault(TRUTH, false, Hex.page(0, 3, "01 00 00 00 00"), 13, 17);
        sound(TRUTH, false, Hex.page(0, 3, "00 00 00 00"), 0);
        fault(TRUTH, true, Hex.page(1, 3, "02 00 00 00 03 01 03 00 00 00 03 01 00"), 13, 25);
    }

    private void leftOverOfABody() {
        says("Terms 4", "of a BODY, behind all.");
        fault(INT, false, Hex.page(1, 0, "01 00 00 00 00"), 13, 17);
        fault(INT, false, Hex.page(1, 0, "01 00 00 00 00 00 00 00"), 13, 17);
        fault(LONG, false, Hex.page(1, 0, "01 00 00 00 00 00 00 00 00"), 13, 21);
        fault(TEXT, false, Hex.page(1, 0, "01 00 00 00 61 00"), 13, 18);
        fault(TRUTH, false, Hex.page(8, 0, "ff 00"), 13, 14);
        fault(TRUTH, false, Hex.page(3, 3, "02 00 00 00 06 01 00"), 13, 19);
        fault(INT, true, Hex.page(1, 0, "02 00 00 00 03 00 07"), 13, 19);
        fault(INT, false, Hex.page(1, 5, "80 01 04 01 00 00"), 13, 18);
        fault(INT, false, Hex.page(2, 5, "80 01 04 02 00 00 01 00 00 00 01 00 00 00 05 05"), 13, 27);
        fault(TEXT, false, Hex.page(1, 6, "80 01 04 01 02 61 62"), 13, 19);
        fault(INT, false, FIVE_SEVEN + Hex.page(1, 8, "00 02 00"), 13, 36, 1, 2);
        fault(INT, false, Hex.page(0, 0, "00"), 13, 13);
        fault(INT, false, Hex.dictionary(0, "00"), 13, 13);
        fault(INT, false, Hex.dictionary(2, "05 00 00 00 07 00 00 00 09"), 13, 21, 0, 2);
    }
}
