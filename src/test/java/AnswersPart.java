import java.util.function.Supplier;

/** "What it is", and "Terms" ahead of the forms of numbers: the answers below 0, the columns, the file. */
final class AnswersPart extends Part {
    private static final int[] NO_COLUMNS = {SMALLEST, -1, 4, 5, GREATEST};

    AnswersPart(Check check, Document document) {
        super(check, document);
    }

    /** A call on the object at hand. */
    private interface Refused {
        long on(Pages x);
    }

    @Override
    void holds() {
        smallCallsUpToTheLast();
        dearCallsUpToTheLast();
        theNumbersOfAnswers();
        badForNoSuchColumn();
        badAheadOfNot();
        badAheadOfFull();
        notAheadOfFull();
        refusedCallsOfAMixedObject();
        refusedCallsOfAFullObject();
        refusedWrites();
        fourColumns();
        ints();
        longs();
        texts();
        truths();
        upTo200Values();
        absentIfOptional();
        atFirst();
        upTo12000Bytes();
    }

    // ---- what it is

    private void smallCallsUpToTheLast() {
        says("What it is", "An object is used for at most 512 calls after it has been made; what later calls answer is free.");
        ColumnPages object = new ColumnPages();
        for (int call = 1; call <= 512; call++) {
            due("call " + call, object.add((call - 1) % 4, call), (call - 1) / 4);
        }
        object = new ColumnPages();
        for (int call = 1; call <= 512; call++) {
            due("call " + call, object.put(call, 8), 8 * call);
        }
    }

    private void dearCallsUpToTheLast() {
        ColumnPages object = new ColumnPages();
        object.column(0, TEXT, true);
        for (int i = 0; i < 5; i++) {
            object.type(0x4142434445464748L + i, 8);
        }
        object.addText(0);
        object.repeat(0, 1, 185);
        for (int call = 9; call < 512; call += 2) {
            due("call " + call, object.write(0, PACKED, 1, false), 185 * 64);
            due("call " + (call + 1), object.read(0), 185);
        }
        ColumnPages other = new ColumnPages();
        other.column(0, LONG, true);
        for (int call = 2; call <= 201; call++) {
            other.add(0, Long.MIN_VALUE / call);
        }
        other.write(0, DICTIONARY, 1, false);
        for (int call = 203; call < 510; call++) {
            due("call " + call, other.write(0, DICTIONARY, 1, false), 16 + 1600 + 200 * 29);
        }
        other.column(1, LONG, false);
        due("call 511", other.read(1), -13);
        due("call 512", other.told(0, 4), 200);
    }

    // ---- the answers

    private void theNumbersOfAnswers() {
        says("Terms, answers", "BAD -1 (there is no such thing, a number is not as told), NOT -2 (as told), FULL -3.");
        due("BAD", ColumnPages.BAD, -1);
        due("NOT", ColumnPages.NOT, -2);
        due("FULL", ColumnPages.FULL, -3);
        is(x.add(4, 1), -1);
        is(x.addText(0), -2);
        full(INT, false);
        is(x.add(0, 1), -3);
    }

    private void badForNoSuchColumn() {
        for (int c : NO_COLUMNS) {
            is(x.column(c, INT, false), BAD);
            is(x.add(c, 1), BAD);
            is(x.addText(c), BAD);
            is(x.addNone(c), BAD);
            is(x.repeat(c, 0, 1), BAD);
            is(x.told(c, 0), BAD);
            is(x.has(c, 0), BAD);
            is(x.value(c, 0), 0);
            is(x.letter(c, 0, 0), BAD);
            is(x.alike(c, 0), BAD);
            is(x.alike(0, c), BAD);
            is(x.alike(c, c), BAD);
            is(x.write(c, PLAIN, 1, false), BAD);
            is(x.read(c), BAD);
        }
    }

    private void badAheadOfNot() {
        says("Terms, answers", "Answers below 0, of several the first that a call names:");
        x.column(0, TEXT, false);
        is(x.add(4, 1), BAD);
        is(x.addText(4), BAD);
        is(x.addNone(4), BAD);
    }

    private void badAheadOfFull() {
        says("Terms, answers", "Answers below 0, of several the first that a call names:");
        for (int i = 0; i < 5; i++) {
            x.type(0, 8);
        }
        is(x.type(0, 0), BAD);
        is(x.type(0, 9), BAD);
        is(x.type(0, 1), FULL);
        fullFile();
        is(x.put(0, 0), BAD);
        is(x.put(0, 9), BAD);
        is(x.put(0, 1), FULL);
        is(x.write(4, PLAIN, 200, true), BAD);
        is(x.write(2, -1, 200, true), BAD);
        is(x.write(2, 3, 200, true), BAD);
        is(x.write(2, PLAIN, 0, true), BAD);
        is(x.write(2, PLAIN, 201, true), BAD);
        is(x.write(2, PLAIN, 200, true), FULL);
        is(x.repeat(2, 200, 201), BAD);
        is(x.repeat(2, 1, 201), BAD);
        is(x.repeat(2, 201, 200), BAD);
        is(x.repeat(2, 200, 0), BAD);
        is(x.repeat(2, 200, 200), FULL);
        x.column(1, TRUTH, false);
        x.add(1, 1);
        is(x.write(1, DICTIONARY, 1, true), BAD);
        is(x.write(1, PLAIN, 1, true), FULL);
    }

    private void notAheadOfFull() {
        says("Terms, answers", "Answers below 0, of several the first that a call names:");
        full(TEXT, true);
        is(x.add(0, 1), NOT);
        is(x.addText(0), FULL);
        is(x.addNone(0), FULL);
        for (int kind : new int[] {INT, LONG, TRUTH}) {
            full(kind, false);
            is(x.addText(0), NOT);
            is(x.addNone(0), NOT);
            is(x.add(0, 1), FULL);
        }
    }

    // ---- what answers so changes nothing

    /** Column 2: 200 texts that are written to just 12000 bytes. */
    private void fullFile() {
        x = new Pages();
        x.column(2, TEXT, true);
        x.text(2, "1234567890123456789012345678901234567");
        x.repeat(2, 1, MOST_VALUES);
        is(x.write(2, PLAIN, 1, false), MOST_BYTES);
    }

    private Pages mixed() {
        Pages object = new Pages();
        object.column(0, INT, true);
        object.add(0, 5);
        object.addNone(0);
        object.add(0, 5);
        object.add(0, -1);
        object.column(1, LONG, false);
        object.add(1, Long.MAX_VALUE);
        object.repeat(1, 1, MOST_VALUES);
        object.column(2, TEXT, true);
        object.text(2, "ab");
        object.addNone(2);
        object.text(2, "");
        object.column(3, TRUTH, false);
        object.add(3, 1);
        object.add(3, 0);
        object.write(0, DICTIONARY, 2, false);
        object.put(0x16, 1);
        object.read(0);
        object.type(0x414243, 3);
        return object;
    }

    private Pages full() {
        fullFile();
        Pages object = x;
        object.column(0, INT, true);
        object.addNone(0);
        object.add(0, 3);
        object.repeat(0, 2, 100);
        object.column(1, LONG, true);
        object.add(1, 1L << 40);
        object.repeat(1, 1, MOST_VALUES);
        object.column(3, TRUTH, false);
        object.add(3, 0);
        object.repeat(3, 1, MOST_VALUES);
        for (int i = 0; i < 5; i++) {
            object.type(0x6162636465666768L, 8);
        }
        object.read(1);
        return object;
    }

    /** Texts that are written to more than 12000 bytes. */
    private Pages tooLong() {
        Pages object = mixed();
        object.column(2, TEXT, true);
        object.addText(2);
        object.column(2, TEXT, true);
        object.text(2, "1234567890123456789012345678901234567890");
        object.repeat(2, 1, MOST_VALUES);
        object.type(0x414243, 3);
        return object;
    }

    private void refused(Supplier<Pages> state, int due, Refused call) {
        Pages refused = state.get();
        long got = call.on(refused);
        String name = refused.last();
        due(name, got, due);
        String now = told(refused);
        due("all behind " + name, now, told(state.get()));
    }

    /** All that calls tell of an object, as text; the tape at last, as it is used up then. */
    private static String told(Pages object) {
        StringBuilder text = new StringBuilder();
        for (int c = 0; c < 4; c++) {
            for (int what = 0; what < 5; what++) {
                text.append(object.told(c, what)).append(' ');
            }
            for (int i : new int[] {0, 1, 2, 3, 4, 5, 198, 199}) {
                text.append(object.has(c, i)).append(' ').append(object.value(c, i)).append(' ');
                text.append(object.told(c, 0) == TEXT ? object.textAt(c, i) : "").append('\n');
            }
            text.append(object.alike(c, (c + 1) % 4)).append('\n');
        }
        for (int what = 0; what < 4; what++) {
            text.append(object.fault(what)).append(' ');
        }
        int size = object.size();
        text.append(object.hex(0, Math.min(size, 90))).append(" .. ").append(object.hex(Math.max(size - 90, 0), size));
        text.append('\n').append(object.type(0x39, 1)).append(' ').append(object.column(2, TEXT, false)).append(' ');
        text.append(object.addText(2)).append(' ').append(object.textAt(2, 0));
        return text.toString();
    }

    private void refusedCallsOfAMixedObject() {
        says("Terms, answers", "What answers so changes nothing.");
        for (int c : new int[] {-1, 4}) {
            refused(this::mixed, BAD, x -> x.column(c, LONG, false));
            refused(this::mixed, BAD, x -> x.add(c, 1));
            refused(this::mixed, BAD, x -> x.addText(c));
            refused(this::mixed, BAD, x -> x.addNone(c));
            refused(this::mixed, BAD, x -> x.repeat(c, 1, 1));
            refused(this::mixed, BAD, x -> x.alike(0, c));
            refused(this::mixed, BAD, x -> x.write(c, PLAIN, 1, false));
            refused(this::mixed, BAD, x -> x.write(c, PLAIN, 1, true));
            refused(this::mixed, BAD, x -> x.read(c));
            refused(this::mixed, BAD, x -> x.fault(c));
            refused(this::mixed, BAD, x -> x.column(0, c, false));
        }
        for (int c = 0; c < 4; c++) {
            int column = c;
            refused(this::mixed, BAD, x -> x.repeat(column, -1, 1));
            refused(this::mixed, BAD, x -> x.repeat(column, 201, 1));
            refused(this::mixed, BAD, x -> x.repeat(column, 1, 0));
            refused(this::mixed, BAD, x -> x.repeat(column, 1, 201));
            refused(this::mixed, FULL, x -> x.repeat(column, 2, 101));
            refused(this::mixed, BAD, x -> x.write(column, -1, 1, false));
            refused(this::mixed, BAD, x -> x.write(column, 3, 1, false));
            refused(this::mixed, BAD, x -> x.write(column, PLAIN, 0, false));
            refused(this::mixed, BAD, x -> x.write(column, PLAIN, 201, false));
        }
        refused(this::mixed, NOT, x -> x.add(2, 1));
        refused(this::mixed, FULL, x -> x.add(1, 1));
        refused(this::mixed, NOT, x -> x.addText(0));
        refused(this::mixed, NOT, x -> x.addText(1));
        refused(this::mixed, NOT, x -> x.addText(3));
        refused(this::mixed, NOT, x -> x.addNone(1));
        refused(this::mixed, NOT, x -> x.addNone(3));
        refused(this::mixed, BAD, x -> x.write(3, DICTIONARY, 1, false));
        refused(this::mixed, BAD, x -> x.type(0x4444, 0));
        refused(this::mixed, BAD, x -> x.type(0x4444, 9));
        refused(this::mixed, BAD, x -> x.put(0x4444, 0));
        refused(this::mixed, BAD, x -> x.put(0x4444, 9));
        int size = mixed().size();
        for (int i : new int[] {-1, size}) {
            refused(this::mixed, BAD, x -> x.poke(i, 1));
            refused(this::mixed, BAD, x -> x.byteAt(i));
        }
        refused(this::mixed, BAD, x -> x.cut(-1));
        refused(this::mixed, BAD, x -> x.cut(size + 1));
    }

    private void refusedCallsOfAFullObject() {
        says("Terms, answers", "What answers so changes nothing.");
        refused(this::full, FULL, x -> x.add(0, 9));
        refused(this::full, FULL, x -> x.add(1, 9));
        refused(this::full, FULL, x -> x.add(3, 9));
        refused(this::full, NOT, x -> x.add(2, 9));
        refused(this::full, FULL, x -> x.addText(2));
        refused(this::full, NOT, x -> x.addText(3));
        refused(this::full, FULL, x -> x.addNone(0));
        refused(this::full, FULL, x -> x.addNone(2));
        refused(this::full, NOT, x -> x.addNone(3));
        refused(this::full, FULL, x -> x.type(0x5555, 1));
        refused(this::full, FULL, x -> x.type(0x5555, 8));
        refused(this::full, FULL, x -> x.put(0x5555, 1));
        refused(this::full, FULL, x -> x.put(0x5555, 8));
        for (int c = 0; c < 4; c++) {
            int column = c;
            refused(this::full, FULL, x -> x.repeat(column, 200, 2));
            refused(this::full, FULL, x -> x.repeat(column, 101, 2));
            refused(this::full, FULL, x -> x.write(column, PLAIN, 200, true));
            refused(this::full, FULL, x -> x.write(column, PACKED, 100, true));
        }
    }

    private void refusedWrites() {
        says("Terms, answers", "What answers so changes nothing.");
        refused(this::tooLong, FULL, x -> x.write(2, PLAIN, 1, false));
        refused(this::tooLong, FULL, x -> x.write(2, PLAIN, 1, true));
        refused(this::tooLong, FULL, x -> x.write(2, PACKED, 1, false));
        refused(this::tooLong, FULL, x -> x.write(2, PACKED, 1, true));
    }

    // ---- columns

    private void fourColumns() {
        says("Terms 1", "==== 1 COLUMNS 0 .. 3 are of a KIND:");
        for (int c = 0; c < 4; c++) {
            is(x.column(c, c, c % 2 == 1), 0);
        }
        for (int c = 0; c < 4; c++) {
            is(x.told(c, 0), c);
            is(x.told(c, 1), c % 2);
        }
        for (int c = 0; c < 4; c++) {
            x.column(c, INT, false);
            x.add(c, 10 + c);
        }
        for (int c = 0; c < 4; c++) {
            hasNumbers(c, 10 + c);
        }
    }

    private void ints() {
        says("Terms 1", "0 INT (32 bits),");
        for (long v : new long[] {SMALLEST, -1, 0, 1, GREATEST}) {
            numbers(INT, false, v, v + (1L << 32), v - (1L << 32), v ^ Long.MIN_VALUE);
            hasNumbers(0, v, v, v, v);
            is(x.told(0, 4), 1);
        }
        numbers(INT, false, GREATEST + 1L, SMALLEST - 1L);
        hasNumbers(0, SMALLEST, GREATEST);
    }

    private void longs() {
        says("Terms 1", "1 LONG (64),");
        long[] values = {Long.MIN_VALUE, Long.MAX_VALUE, -1, 0, 1L << 32, GREATEST + 1L, SMALLEST - 1L};
        numbers(LONG, false, values);
        hasNumbers(0, values);
        is(x.told(0, 4), values.length);
        numbers(LONG, false, 1, 1 + (1L << 32));
        is(x.told(0, 4), 2);
    }

    private void texts() {
        says("Terms 1", "2 TEXT (a row of 0 to 40 bytes, 0 .. 255),");
        x.column(0, TEXT, false);
        StringBuilder forty = new StringBuilder();
        String[] texts = new String[8];
        for (int t = 0; t < 7; t++) {
            forty.setLength(0);
            for (int k = 0; k < MOST_LETTERS; k++) {
                forty.append((char) (t * MOST_LETTERS + k & 255));
            }
            texts[t] = forty.toString();
            x.text(0, texts[t]);
        }
        texts[7] = "";
        x.text(0, texts[7]);
        hasTexts(0, texts);
        is(x.value(0, 6), MOST_LETTERS);
        is(x.letter(0, 6, 39), 279 - 256);
        is(x.value(0, 7), 0);
        for (int way = PLAIN; way <= PACKED; way++) {
            x.write(0, way, 3, false);
            x.column(1, TEXT, false);
            is(x.read(1), 8);
            is(x.alike(0, 1), 1);
            is(x.letter(1, 6, 15), 255);
            is(x.letter(1, 6, 16), 0);
        }
    }

    private void truths() {
        says("Terms 1", "3 TRUTH (0, 1);");
        numbers(TRUTH, false, 0, 1, 2, -1, 256, 1L << 32, Long.MIN_VALUE);
        hasNumbers(0, 0, 1, 1, 1, 1, 1, 1);
        is(x.told(0, 4), 2);
    }

    private void upTo200Values() {
        says("Terms 1", "and OPTIONAL or not; they have 0 to 200 VALUES,");
        for (int kind = INT; kind <= TRUTH; kind++) {
            full(kind, true);
            is(x.told(0, 2), MOST_VALUES);
            x.repeat(0, 199, 1);
            if (kind == TEXT) {
                is(x.addText(0), 199);
                is(x.addText(0), FULL);
            } else {
                is(x.add(0, 1), 199);
                is(x.add(0, 1), FULL);
            }
            x.repeat(0, 199, 1);
            is(x.addNone(0), 199);
            is(x.addNone(0), FULL);
            is(x.told(0, 2), MOST_VALUES);
            is(x.has(0, 199), 0);
            is(x.has(0, 200), BAD);
            is(x.repeat(0, 0, 1), 0);
            is(x.told(0, 2), 0);
        }
    }

    private void absentIfOptional() {
        says("Terms 1", "some of them ABSENT, if it is OPTIONAL.");
        for (int kind = INT; kind <= TRUTH; kind++) {
            x.column(0, kind, false);
            is(x.addNone(0), NOT);
            x.column(0, kind, true);
            is(x.addNone(0), 0);
            is(x.has(0, 0), 0);
            is(x.told(0, 3), 1);
        }
    }

    private void atFirst() {
        says("Terms 1", "(At first: INT, not OPTIONAL, no VALUES.)");
        for (int c = 0; c < 4; c++) {
            is(x.told(c, 0), INT);
            is(x.told(c, 1), 0);
            is(x.told(c, 2), 0);
            is(x.addNone(c), NOT);
            is(x.addText(c), NOT);
            is(x.add(c, 1L << 32), 0);
            is(x.value(c, 0), 0);
        }
    }

    private void upTo12000Bytes() {
        says("Terms 1", "THE FILE has at most 12000 bytes.");
        fullFile();
        is(x.size(), MOST_BYTES);
        is(x.put(1, 1), FULL);
        is(x.size(), MOST_BYTES);
        is(x.byteAt(11999), '7');
        is(x.byteAt(12000), BAD);
        x.column(1, TEXT, true);
        is(x.read(1), MOST_VALUES);
        is(x.alike(1, 2), 1);
        x.cut(11999);
        is(x.put(1, 2), FULL);
        is(x.put(1, 1), MOST_BYTES);
        x.cut(11992);
        is(x.put(1, 8), MOST_BYTES);
        x.cut(11993);
        is(x.put(1, 8), FULL);
        is(x.put(1, 7), MOST_BYTES);
    }
}
