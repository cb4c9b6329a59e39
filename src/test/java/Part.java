/** A part of the document: each of its sentences with what it asks at its boundaries. */
abstract class Part {
    static final int BAD = -1, NOT = -2, FULL = -3;
    static final int INT = 0, LONG = 1, TEXT = 2, TRUTH = 3;
    static final int PLAIN = 0, DICTIONARY = 1, PACKED = 2;
    static final int SMALLEST = Integer.MIN_VALUE, GREATEST = Integer.MAX_VALUE;
    static final int MOST_VALUES = 200, MOST_LETTERS = 40, MOST_BYTES = 12000;
    /** A dictionary page of the INTS 5 and 7: 21 bytes. */
    static final String FIVE_SEVEN = Hex.dictionary(2, "05 00 00 00 07 00 00 00");

    private final Check check;
    private final Document document;
    /** The object at hand. */
    Pages x = new Pages();

    Part(Check check, Document document) {
        this.check = check;
        this.document = document;
    }

    abstract void holds();

    void says(String part, String words) {
        check.says(part, words);
        document.quote(part, words);
        x = new Pages();
    }

    // ---- what is due

    void is(long got, long want) {
        check.due(x.last(), got, want);
    }

    void is(String got, String want) {
        check.due(x.last(), got, want);
    }

    void due(String what, long got, long want) {
        check.due(what, got, want);
    }

    void due(String what, String got, String want) {
        check.due(what, got, want);
    }

    // ---- columns

    /** A new object, its column 0 with these numbers. */
    void numbers(int kind, boolean optional, long... numbers) {
        x = new Pages();
        x.column(0, kind, optional);
        for (long number : numbers) {
            x.add(0, number);
        }
    }

    /** A new object, its column 0 with these truths: '1', '0', '-' absent. */
    void truths(boolean optional, String signs) {
        numbers(TRUTH, optional);
        for (char sign : signs.toCharArray()) {
            if (sign == '-') {
                x.addNone(0);
            } else {
                x.add(0, sign - '0');
            }
        }
    }

    /** A new object, its column 0 with these texts; null: absent. */
    void texts(boolean optional, String... texts) {
        numbers(TEXT, optional);
        for (String text : texts) {
            x.text(0, text);
        }
    }

    /** A new object, its column 0 with 200 values of any kind. */
    void full(int kind, boolean optional) {
        numbers(kind, optional);
        if (kind == TEXT) {
            x.text(0, "ab");
        } else {
            x.add(0, 1);
        }
        x.repeat(0, 1, MOST_VALUES);
    }

    void hasNumbers(int c, long... numbers) {
        is(x.told(c, 2), numbers.length);
        for (int i = 0; i < numbers.length; i++) {
            is(x.has(c, i), 1);
            is(x.value(c, i), numbers[i]);
        }
    }

    void hasTexts(int c, String... texts) {
        is(x.told(c, 2), texts.length);
        for (int i = 0; i < texts.length; i++) {
            is(x.textAt(c, i), texts[i]);
        }
    }

    // ---- pages

    /** Column 0 is written to these bytes. */
    void written(int way, int q, String hex) {
        is(x.write(0, way, q, false), Hex.length(hex));
        is(x.hex(), Hex.plain(hex));
    }

    /** Column 0 is written to one page with this BODY. */
    void writtenBody(int way, int many, int code, String body) {
        written(way, MOST_VALUES, Hex.page(many, code, body));
    }

    /** These bytes are read into column 0 with no fault. */
    void sound(int kind, boolean optional, String hex, int values) {
        sound(kind, optional, hex, values, 1, 0);
    }

    void sound(int kind, boolean optional, String hex, int values, int pages, int unlike) {
        numbers(kind, optional);
        x.file(hex);
        reads(values, 0, 0, pages, unlike);
        is(x.told(0, 0), kind);
        is(x.told(0, 1), optional ? 1 : 0);
        is(x.told(0, 2), values);
    }

    void fault(int kind, boolean optional, String hex, int fault, int place) {
        fault(kind, optional, hex, fault, place, 0, 0);
    }

    /** These bytes are read into column 0 with this fault, and the column stays. */
    void fault(int kind, boolean optional, String hex, int fault, int place, int pages, int unlike) {
        numbers(kind, optional);
        x.text(0, kind == TEXT ? "stays" : "");
        x.add(0, 1);
        x.file(hex);
        reads(-10 - fault, fault, place, pages, unlike);
        is(x.told(0, 2), 1);
        is(x.value(0, 0), kind == TEXT ? 5 : 1);
        due("the file of read(0)", x.size(), Hex.length(hex));
    }

    private void reads(int answer, int fault, int place, int pages, int unlike) {
        int got = x.read(0);
        int size = x.size();
        String name = "read(0) of " + size + " bytes: " + x.hex(0, Math.min(size, 60));
        due(name, got, answer);
        due(name + " fault(0)", x.fault(0), fault);
        due(name + " fault(1)", x.fault(1), place);
        due(name + " fault(2)", x.fault(2), pages);
        due(name + " fault(3)", x.fault(3), unlike);
    }
}
