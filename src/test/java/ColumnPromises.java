/** "Promise 1" to "Promise 12": a new object and its columns. */
final class ColumnPromises extends Part {
    private static final int[] NO_COLUMNS = {SMALLEST, -1, 4, 5, GREATEST};

    ColumnPromises(Check check, Document document) {
        super(check, document);
    }

    @Override
    void holds() {
        aNewObject();
        column();
        columnIsBad();
        add();
        addIsRefused();
        type();
        typeIsRefused();
        addText();
        addTextIsRefused();
        addNone();
        addNoneIsRefused();
        repeat();
        repeatOfAnyKind();
        repeatIsBad();
        repeatIsFull();
        told();
        unlikeValues();
        toldIsBad();
        has();
        value();
        letter();
        alike();
        alikeTexts();
    }

    private void aNewObject() {
        says("Promise 1", "`ColumnPages()`: COLUMNS as at first; THE FILE, THE TAPE are empty.");
        for (int c = 0; c < 4; c++) {
            is(x.told(c, 0), INT);
            for (int what = 1; what <= 4; what++) {
                is(x.told(c, what), 0);
            }
            is(x.has(c, 0), BAD);
            is(x.alike(0, c), 1);
        }
        is(x.size(), 0);
        is(x.byteAt(0), BAD);
        is(x.cut(1), BAD);
        is(x.read(0), 0);
        is(x.type(7, 1), 1);
        x = new Pages();
        x.column(0, TEXT, false);
        is(x.addText(0), 0);
        is(x.value(0, 0), 0);
    }

    // ---- column

    private void column() {
        says("Promise 2", "`int column(int c, int kind, boolean optional)`: A COLUMN is of a KIND, OPTIONAL or not, without VALUES: "
            + "how many it had.");
        for (int c = 0; c < 4; c++) {
            for (int kind = INT; kind <= TRUTH; kind++) {
                is(x.column(c, kind, true), kind == INT ? 0 : 3);
                is(x.told(c, 0), kind);
                is(x.told(c, 1), 1);
                is(x.told(c, 2), 0);
                is(x.addNone(c), 0);
                is(x.column(c, kind, false), 1);
                is(x.told(c, 1), 0);
                is(x.has(c, 0), BAD);
                is(x.told(c, 3), 0);
                x.column(c, kind, true);
                x.addNone(c);
                x.repeat(c, 1, 3);
            }
        }
        for (int kind = INT; kind <= TRUTH; kind++) {
            full(kind, false);
            is(x.column(0, kind, false), 200);
            is(x.column(0, kind, false), 0);
            is(x.told(0, 4), 0);
            is(x.letter(0, 0, 0), BAD);
            is(x.value(0, 0), 0);
            is(x.alike(0, 0), 1);
        }
        // other columns, the tape and the file stay
        texts(true, "a", null);
        x.column(1, LONG, false);
        x.add(1, 5);
        x.put(3, 1);
        x.type(0x42, 1);
        is(x.column(1, TEXT, false), 1);
        hasTexts(0, "a", null);
        is(x.size(), 1);
        is(x.addText(1), 0);
        hasTexts(1, "B");
    }

    private void columnIsBad() {
        says("Promise 2", "BAD.");
        numbers(LONG, true, 1, 2);
        for (int c : NO_COLUMNS) {
            is(x.column(c, INT, false), BAD);
        }
        for (int kind : new int[] {SMALLEST, -1, 4, 5, GREATEST}) {
            is(x.column(0, kind, false), BAD);
        }
        is(x.told(0, 0), LONG);
        is(x.told(0, 1), 1);
        hasNumbers(0, 1, 2);
    }

    // ---- add

    private void add() {
        says("Promise 3", "`int add(int c, long v)`: A VALUE more (of INT the lowest 32 bits, of TRUTH whether v is not 0): its "
            + "number.");
        numbers(INT, false);
        for (int i = 0; i < 200; i++) {
            is(x.add(0, 3L * i), i);
        }
        is(x.value(0, 0), 0);
        is(x.value(0, 199), 597);
        numbers(INT, false, 1L << 31, 1L << 32, (1L << 32) - 1, SMALLEST, SMALLEST - 1L, Long.MIN_VALUE, Long.MAX_VALUE,
            0x123456789L);
        hasNumbers(0, SMALLEST, 0, -1, SMALLEST, GREATEST, 0, -1, 0x23456789);
        numbers(LONG, false, 1L << 31, 1L << 32, Long.MIN_VALUE, Long.MAX_VALUE);
        hasNumbers(0, 1L << 31, 1L << 32, Long.MIN_VALUE, Long.MAX_VALUE);
        numbers(TRUTH, true, 0, 1, -1, 2, 1L << 32, Long.MIN_VALUE);
        hasNumbers(0, 0, 1, 1, 1, 1, 1);
        x.addNone(0);
        is(x.add(0, 0), 7);
        is(x.has(0, 7), 1);
    }

    private void addIsRefused() {
        says("Promise 3", "BAD; NOT: it is a TEXT; FULL.");
        for (int c : NO_COLUMNS) {
            is(x.add(c, 1), BAD);
        }
        x.column(1, TEXT, true);
        is(x.add(1, 1), NOT);
        is(x.told(1, 2), 0);
        full(TEXT, false);
        is(x.add(0, 1), NOT);
        for (int kind : new int[] {INT, LONG, TRUTH}) {
            full(kind, true);
            is(x.add(0, 0), FULL);
            x.repeat(0, 199, 1);
            is(x.add(0, 0), 199);
            is(x.add(0, 0), FULL);
            is(x.told(0, 2), 200);
            is(x.value(0, 199), 0);
            is(x.value(0, 198), 1);
        }
    }

    // ---- texts

    private void type() {
        says("Promise 4", "`int type(long w, int n)`: The n lowest bytes (1 .. 8) of w, of these the highest first, come behind THE "
            + "TAPE: how many it has.");
        x.column(0, TEXT, false);
        long w = 0x4142434445464748L;
        for (int n = 1; n <= 8; n++) {
            is(x.type(w, n), n);
            x.addText(0);
            is(x.textAt(0, n - 1), "ABCDEFGH".substring(8 - n));
        }
        is(x.type(0x99616263L, 3), 3);
        is(x.type(-1, 1), 4);
        is(x.type(0xFFFFFFFFFFFFFF00L, 1), 5);
        x.addText(0);
        is(x.textAt(0, 8), "abc\u00ff\u0000");
        is(x.type(0x8000000000000001L, 8), 8);
        x.addText(0);
        is(x.textAt(0, 9), "\u0080\u0000\u0000\u0000\u0000\u0000\u0000\u0001");
    }

    private void typeIsRefused() {
        says("Promise 4", "BAD; FULL: 40.");
        for (int n : new int[] {SMALLEST, -1, 0, 9, 10, GREATEST}) {
            is(x.type(0x41, n), BAD);
        }
        is(x.type(0x41, 1), 1);
        for (int before = 32; before <= 40; before++) {
            x = new Pages();
            x.column(0, TEXT, false);
            for (int i = 0; i < 4; i++) {
                x.type(0x4142434445464748L, 8);
            }
            if (before > 32) {
                is(x.type(0x6162636465666768L, before - 32), before);
            }
            for (int n = 8; n > 40 - before; n--) {
                is(x.type(0x2A2A, n), FULL);
            }
            is(x.type(0x2A2A, 0), BAD);
            is(x.type(0x2A2A, 9), BAD);
            if (before < 40) {
                is(x.type(0x3132333435363738L, 40 - before), 40);
            }
            is(x.type(0x2A2A, 1), FULL);
            is(x.addText(0), 0);
            is(x.textAt(0, 0), "ABCDEFGH".repeat(4) + "abcdefgh".substring(8 - (before - 32))
                + "12345678".substring(before - 32));
            is(x.type(0x2A2A, 8), 8);
        }
    }

    private void addText() {
        says("Promise 5", "`int addText(int c)`: THE TAPE, which is empty then, is a VALUE more of a TEXT: its number.");
        x.column(0, TEXT, false);
        x.column(3, TEXT, true);
        x.type(0x61, 1);
        is(x.addText(0), 0);
        is(x.addText(0), 1);
        is(x.type(0x62, 1), 1);
        is(x.addText(3), 0);
        for (int i = 0; i < 5; i++) {
            is(x.type(0x3132333435363738L, 8), 8 * i + 8);
        }
        is(x.addText(0), 2);
        is(x.type(0x63, 1), 1);
        is(x.addText(0), 3);
        hasTexts(0, "a", "", "12345678".repeat(5), "c");
        hasTexts(3, "b");
        numbers(TEXT, false);
        for (int i = 0; i < 200; i++) {
            is(x.addText(0), i);
        }
    }

    private void addTextIsRefused() {
        says("Promise 5", "BAD; NOT: it is no TEXT; FULL. (By these THE TAPE stays.)");
        x.type(0x6162, 2);
        for (int c : NO_COLUMNS) {
            is(x.addText(c), BAD);
        }
        x.column(1, LONG, true);
        x.column(2, TRUTH, true);
        for (int c = 0; c < 3; c++) {
            is(x.addText(c), NOT);
            is(x.told(c, 2), 0);
        }
        x.column(3, TEXT, false);
        x.addText(3);
        x.type(0x63, 1);
        x.repeat(3, 1, 200);
        is(x.addText(3), FULL);
        is(x.type(0x64, 1), 2);
        is(x.repeat(3, 199, 1), 199);
        is(x.addText(3), 199);
        is(x.textAt(3, 198), "ab");
        is(x.textAt(3, 199), "cd");
        is(x.addText(3), FULL);
        is(x.type(0x65, 1), 1);
    }

    // ---- absent values

    private void addNone() {
        says("Promise 6", "`int addNone(int c)`: An ABSENT VALUE more: its number.");
        for (int kind = INT; kind <= TRUTH; kind++) {
            numbers(kind, true);
            is(x.addNone(0), 0);
            x.add(0, 7);
            x.addText(0);
            is(x.addNone(0), 2);
            is(x.has(0, 0), 0);
            is(x.has(0, 1), 1);
            is(x.has(0, 2), 0);
            is(x.value(0, 2), 0);
            is(x.told(0, 3), 2);
        }
        // where another value was
        texts(true, "abc");
        x.repeat(0, 0, 1);
        is(x.addNone(0), 0);
        is(x.has(0, 0), 0);
        is(x.value(0, 0), 0);
        is(x.letter(0, 0, 0), BAD);
        numbers(TRUTH, true);
        for (int i = 0; i < 200; i++) {
            is(x.addNone(0), i);
        }
        is(x.told(0, 3), 200);
    }

    private void addNoneIsRefused() {
        says("Promise 6", "BAD; NOT: it is not OPTIONAL; FULL.");
        for (int c : NO_COLUMNS) {
            is(x.addNone(c), BAD);
        }
        for (int kind = INT; kind <= TRUTH; kind++) {
            numbers(kind, false);
            is(x.addNone(0), NOT);
            is(x.told(0, 2), 0);
            full(kind, false);
            is(x.addNone(0), NOT);
            full(kind, true);
            is(x.addNone(0), FULL);
            is(x.told(0, 3), 0);
            x.repeat(0, 199, 1);
            is(x.addNone(0), 199);
            is(x.addNone(0), FULL);
        }
    }

    // ---- repeat

    private void repeat() {
        says("Promise 7", "`int repeat(int c, int k, int n)`: A COLUMN has the VALUES of one to the k-th alone, each n times one "
            + "behind the other: how many.");
        numbers(INT, false, 5, 6, 7);
        is(x.repeat(0, 3, 1), 3);
        hasNumbers(0, 5, 6, 7);
        is(x.repeat(0, 2, 2), 4);
        hasNumbers(0, 5, 5, 6, 6);
        is(x.has(0, 4), BAD);
        is(x.repeat(0, 3, 3), 9);
        hasNumbers(0, 5, 5, 5, 5, 5, 5, 6, 6, 6);
        is(x.repeat(0, 1, 1), 1);
        hasNumbers(0, 5);
        is(x.add(0, 8), 1);
        hasNumbers(0, 5, 8);
        is(x.repeat(0, 0, 1), 0);
        is(x.told(0, 2), 0);
        is(x.repeat(0, 0, 200), 0);
        is(x.add(0, 9), 0);
        is(x.repeat(0, 0, 200), 0);
        is(x.has(0, 0), BAD);
    }

    private void repeatOfAnyKind() {
        texts(true, "ab", null, "", "x".repeat(40));
        is(x.repeat(0, 4, 3), 12);
        hasTexts(0, "ab", "ab", "ab", null, null, null, "", "", "", "x".repeat(40), "x".repeat(40), "x".repeat(40));
        is(x.told(0, 3), 3);
        is(x.repeat(0, 4, 2), 8);
        hasTexts(0, "ab", "ab", "ab", "ab", "ab", "ab", null, null);
        truths(true, "10-");
        is(x.repeat(0, 3, 2), 6);
        is(x.value(0, 1), 1);
        is(x.value(0, 2), 0);
        is(x.has(0, 3), 1);
        is(x.has(0, 4), 0);
        is(x.has(0, 5), 0);
        numbers(LONG, false, Long.MIN_VALUE, Long.MAX_VALUE);
        is(x.repeat(0, 2, 2), 4);
        hasNumbers(0, Long.MIN_VALUE, Long.MIN_VALUE, Long.MAX_VALUE, Long.MAX_VALUE);
    }

    private void repeatIsBad() {
        says("Promise 7", "BAD: k not 0 .. how many; n not 1 .. 200;");
        for (int c : NO_COLUMNS) {
            is(x.repeat(c, 0, 1), BAD);
        }
        numbers(INT, false, 5, 6);
        for (int k : new int[] {SMALLEST, -1, 3, 200, GREATEST}) {
            is(x.repeat(0, k, 1), BAD);
        }
        for (int n : new int[] {SMALLEST, -1, 0, 201, GREATEST}) {
            is(x.repeat(0, 0, n), BAD);
            is(x.repeat(0, 1, n), BAD);
            is(x.repeat(0, 2, n), BAD);
        }
        hasNumbers(0, 5, 6);
        is(x.repeat(0, 2, 100), 200);
        is(x.repeat(0, 201, 1), BAD);
        is(x.repeat(0, 200, 1), 200);
        is(x.repeat(0, 1, 200), 200);
        is(x.value(0, 199), 5);
        is(x.repeat(0, 0, 1), 0);
        is(x.repeat(0, 1, 1), BAD);
    }

    private void repeatIsFull() {
        says("Promise 7", "FULL: more than 200.");
        numbers(INT, false, 5, 6, 7);
        is(x.repeat(0, 3, 67), FULL);
        is(x.repeat(0, 2, 101), FULL);
        is(x.repeat(0, 3, 200), FULL);
        is(x.repeat(0, 2, 200), FULL);
        hasNumbers(0, 5, 6, 7);
        is(x.repeat(0, 3, 66), 198);
        is(x.value(0, 66), 6);
        is(x.value(0, 197), 7);
        is(x.repeat(0, 198, 2), FULL);
        is(x.repeat(0, 101, 2), FULL);
        is(x.repeat(0, 100, 2), 200);
        is(x.repeat(0, 200, 2), FULL);
        is(x.repeat(0, 200, 200), FULL);
        is(x.repeat(0, 8, 25), 200);
        is(x.repeat(0, 8, 26), FULL);
    }

    // ---- told

    private void told() {
        says("Promise 8", "`int told(int c, int what)`: Of a COLUMN: 0 KIND, 1 whether it is OPTIONAL, 2 how many VALUES, 3 ABSENT "
            + "ones,");
        for (int kind = INT; kind <= TRUTH; kind++) {
            for (int c = 0; c < 4; c++) {
                x.column(c, kind, c % 2 == 0);
                is(x.told(c, 0), kind);
                is(x.told(c, 1), (c + 1) % 2);
                is(x.told(c, 2), 0);
                is(x.told(c, 3), 0);
            }
        }
        truths(true, "1-0--");
        is(x.told(0, 2), 5);
        is(x.told(0, 3), 3);
        x.repeat(0, 4, 50);
        is(x.told(0, 2), 200);
        is(x.told(0, 3), 100);
        x.repeat(0, 50, 1);
        is(x.told(0, 3), 0);
        truths(true, "-");
        x.repeat(0, 1, 200);
        is(x.told(0, 3), 200);
        is(x.told(0, 4), 0);
    }

    private void unlikeValues() {
        says("Promise 8", "4 unlike values that are there.");
        numbers(LONG, true, 5, 0, 5, 1L << 32, 0, Long.MIN_VALUE);
        x.addNone(0);
        x.addNone(0);
        is(x.told(0, 4), 4);
        numbers(INT, false, 0, 1L << 32);
        is(x.told(0, 4), 1);
        texts(true, "", "a", "b", "ab", "a", null, "", "aa", "ac", null, "\u0000", "a\u0000");
        is(x.told(0, 4), 8);
        texts(false, "x".repeat(40), "x".repeat(39) + "y", "x".repeat(39), "y" + "x".repeat(39), "x".repeat(40));
        is(x.told(0, 4), 4);
        texts(false, "longer one");
        x.repeat(0, 0, 1);
        x.text(0, "l");
        x.text(0, "l");
        is(x.told(0, 4), 1);
        truths(true, "--");
        is(x.told(0, 4), 0);
        truths(true, "-0-0");
        is(x.told(0, 4), 1);
        truths(false, "0101");
        is(x.told(0, 4), 2);
        numbers(INT, false);
        for (int i = 0; i < 200; i++) {
            x.add(0, -i);
            is(x.told(0, 4), i + 1);
        }
    }

    private void toldIsBad() {
        says("Promise 8", "BAD.");
        for (int c : NO_COLUMNS) {
            is(x.told(c, 0), BAD);
        }
        for (int what : new int[] {SMALLEST, -1, 5, 6, GREATEST}) {
            for (int c = 0; c < 4; c++) {
                is(x.told(c, what), BAD);
            }
        }
        is(x.told(3, 4), 0);
        is(x.told(0, 0), 0);
    }

    // ---- values

    private void has() {
        says("Promise 9", "`int has(int c, int i)`: Whether VALUE i is there: 1, 0. BAD.");
        truths(true, "0-1");
        is(x.has(0, 0), 1);
        is(x.has(0, 1), 0);
        is(x.has(0, 2), 1);
        for (int i : new int[] {SMALLEST, -1, 3, 199, 200, 201, GREATEST}) {
            is(x.has(0, i), BAD);
        }
        for (int c : NO_COLUMNS) {
            is(x.has(c, 0), BAD);
        }
        is(x.has(1, 0), BAD);
        full(TEXT, false);
        is(x.has(0, 199), 1);
        is(x.has(0, 200), BAD);
        x.repeat(0, 1, 1);
        is(x.has(0, 0), 1);
        is(x.has(0, 1), BAD);
    }

    private void value() {
        says("Promise 10", "`long value(int c, int i)`: VALUE i as a number (of TEXT its length); 0 of one that is not there.");
        numbers(INT, true, -7, SMALLEST);
        x.addNone(0);
        is(x.value(0, 0), -7);
        is(x.value(0, 1), SMALLEST);
        is(x.value(0, 2), 0);
        for (int i : new int[] {SMALLEST, -1, 3, 199, 200, 201, GREATEST}) {
            is(x.value(0, i), 0);
        }
        for (int c : NO_COLUMNS) {
            is(x.value(c, 0), 0);
        }
        x.repeat(0, 1, 1);
        is(x.value(0, 0), -7);
        is(x.value(0, 1), 0);
        x.column(0, INT, false);
        is(x.value(0, 0), 0);
        numbers(LONG, false, Long.MIN_VALUE, 1L << 40);
        is(x.value(0, 0), Long.MIN_VALUE);
        is(x.value(0, 1), 1L << 40);
        x.repeat(0, 2, 100);
        is(x.value(0, 199), 1L << 40);
        is(x.value(0, 200), 0);
        texts(true, "four", "", null, "x".repeat(40));
        is(x.value(0, 0), 4);
        is(x.value(0, 1), 0);
        is(x.value(0, 2), 0);
        is(x.value(0, 3), 40);
        truths(false, "10");
        is(x.value(0, 0), 1);
        is(x.value(0, 1), 0);
    }

    private void letter() {
        says("Promise 11", "`int letter(int c, int i, int k)`: Byte k of VALUE i of a TEXT. BAD: there is none.");
        texts(true, "a\u00c8\u0000", null, "", "x".repeat(39) + "y");
        is(x.letter(0, 0, 0), 'a');
        is(x.letter(0, 0, 1), 200);
        is(x.letter(0, 0, 2), 0);
        is(x.letter(0, 3, 0), 'x');
        is(x.letter(0, 3, 39), 'y');
        for (int k : new int[] {SMALLEST, -1, 3, 40, 41, GREATEST}) {
            is(x.letter(0, 0, k), BAD);
        }
        is(x.letter(0, 3, -1), BAD);
        is(x.letter(0, 3, 40), BAD);
        is(x.letter(0, 1, 0), BAD);
        is(x.letter(0, 2, 0), BAD);
        for (int i : new int[] {SMALLEST, -1, 4, 199, 200, GREATEST}) {
            is(x.letter(0, i, 0), BAD);
        }
        for (int c : NO_COLUMNS) {
            is(x.letter(c, 0, 0), BAD);
        }
        x.repeat(0, 3, 1);
        is(x.letter(0, 3, 0), BAD);
        for (int kind : new int[] {INT, LONG, TRUTH}) {
            numbers(kind, false, 5);
            is(x.letter(0, 0, 0), BAD);
        }
        texts(false, "abc");
        x.column(0, INT, false);
        x.add(0, 3);
        is(x.letter(0, 0, 0), BAD);
        full(TEXT, false);
        is(x.letter(0, 199, 1), 'b');
        is(x.letter(0, 200, 0), BAD);
    }

    // ---- alike

    private void alike() {
        says("Promise 12", "`int alike(int c, int d)`: Whether two COLUMNS have one KIND and like VALUES (OPTIONAL or not): 1, 0. "
            + "BAD.");
        for (int c : NO_COLUMNS) {
            is(x.alike(c, 0), BAD);
            is(x.alike(3, c), BAD);
            is(x.alike(c, c), BAD);
        }
        is(x.alike(2, 2), 1);
        is(x.alike(0, 3), 1);
        for (int kind = INT; kind <= TRUTH; kind++) {
            x.column(0, kind, false);
            for (int other = INT; other <= TRUTH; other++) {
                x.column(1, other, true);
                is(x.alike(0, 1), kind == other ? 1 : 0);
                is(x.alike(1, 0), kind == other ? 1 : 0);
            }
        }
        numbers(INT, false, 0, 4);
        x.column(1, INT, true);
        is(x.alike(0, 1), 0);
        x.add(1, 0);
        is(x.alike(0, 1), 0);
        is(x.alike(1, 0), 0);
        x.add(1, 4);
        is(x.alike(0, 1), 1);
        is(x.alike(1, 0), 1);
        x.repeat(1, 1, 1);
        x.add(1, 5);
        is(x.alike(0, 1), 0);
        x.repeat(1, 1, 1);
        x.addNone(1);
        is(x.alike(0, 1), 0);
        // values that went do not count
        numbers(INT, true, 5, 6);
        x.repeat(0, 1, 1);
        x.column(1, INT, true);
        x.add(1, 5);
        x.addNone(1);
        x.repeat(1, 1, 1);
        is(x.alike(0, 1), 1);
        is(x.alike(1, 0), 1);
        is(x.told(0, 3), 0);
        is(x.told(1, 3), 0);
        is(x.told(0, 4), 1);
        // absent is not 0
        numbers(LONG, true, 0);
        x.column(1, LONG, true);
        x.addNone(1);
        is(x.alike(0, 1), 0);
        is(x.alike(1, 0), 0);
        x.column(0, LONG, true);
        x.addNone(0);
        is(x.alike(0, 1), 1);
        numbers(LONG, false, 1);
        x.column(1, LONG, false);
        x.add(1, 1 + (1L << 32));
        is(x.alike(0, 1), 0);
        full(TRUTH, false);
        x.column(3, TRUTH, true);
        x.add(3, 1);
        x.repeat(3, 1, 200);
        is(x.alike(0, 3), 1);
        x.repeat(3, 199, 1);
        is(x.alike(0, 3), 0);
        x.add(3, 0);
        is(x.alike(0, 3), 0);
        is(x.alike(3, 0), 0);
    }

    private void alikeTexts() {
        String[][] unlike = {{"a", "b"}, {"a", "ab"}, {"", "a"}, {"ab", "ac"}, {"bc", "ac"}, {null, ""}, {"a", null},
            {"x".repeat(40), "x".repeat(39) + "y"}, {"x".repeat(40), "x".repeat(39)}, {"", "\u0000"}, {"a", "\u00e1"}};
        for (String[] two : unlike) {
            texts(true, "same", two[0]);
            x.column(1, TEXT, true);
            x.text(1, "same");
            x.text(1, two[1]);
            is(x.alike(0, 1), 0);
            is(x.alike(1, 0), 0);
            is(x.alike(1, 1), 1);
            x.repeat(1, 1, 1);
            x.text(1, two[0]);
            is(x.alike(0, 1), 1);
        }
        // bytes of an earlier text behind the end do not count
        texts(false, "longer");
        x.column(0, TEXT, false);
        x.text(0, "lo");
        x.column(1, TEXT, true);
        x.text(1, "lo");
        is(x.alike(0, 1), 1);
    }
}
