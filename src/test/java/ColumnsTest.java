/** Promises 1 to 12: a new object and its columns. */
public final class ColumnsTest {
    private static final int BAD = -1, NOT = -2, FULL = -3;
    private static final int INT = 0, LONG = 1, TEXT = 2, TRUTH = 3;
    private static final Check CHECK = new Check();

    public static void main(String[] args) {
        aNewObject();
        column();
        add();
        typeAndAddText();
        addNone();
        repeat();
        told();
        hasAndValue();
        letter();
        alike();
        nothingChangesByAnAnswerBelowZero();
        CHECK.end("ColumnsTest");
    }

    private static void due(String call, long got, long want) {
        CHECK.due(call, got, want);
    }

    private static void aNewObject() {
        ColumnPages x = new ColumnPages();
        for (int c = 0; c < 4; c++) {
            due("new: kind", x.told(c, 0), INT);
            due("new: optional", x.told(c, 1), 0);
            due("new: values", x.told(c, 2), 0);
            due("new: absent", x.told(c, 3), 0);
            due("new: unlike", x.told(c, 4), 0);
        }
        due("new: size", x.size(), 0);
        for (int what = 0; what < 4; what++) {
            due("new: fault", x.fault(what), 0);
        }
        due("new: tape", x.type(7, 1), 1);
    }

    private static void column() {
        ColumnPages x = new ColumnPages();
        due("column -1", x.column(-1, INT, true), BAD);
        due("column 4", x.column(4, INT, true), BAD);
        due("kind -1", x.column(0, -1, true), BAD);
        due("kind 4", x.column(0, 4, true), BAD);
        due("column", x.column(3, LONG, true), 0);
        Check.numbers(x, 3, 1, 2);
        x.addNone(3);
        due("kind", x.told(3, 0), LONG);
        due("optional", x.told(3, 1), 1);
        due("bad kind with values", x.column(3, 4, false), BAD);
        due("stays", x.told(3, 2), 3);
        due("had", x.column(3, TRUTH, false), 3);
        due("kind", x.told(3, 0), TRUTH);
        due("optional", x.told(3, 1), 0);
        due("values", x.told(3, 2), 0);
        due("had none", x.column(3, TRUTH, false), 0);
    }

    private static void add() {
        ColumnPages x = new ColumnPages();
        due("add -1", x.add(-1, 1), BAD);
        due("add 4", x.add(4, 1), BAD);
        due("add 0", x.add(0, 0x180000000L), 0);
        due("lowest 32 bits", x.value(0, 0), Integer.MIN_VALUE);
        due("add 1", x.add(0, 0x7FFFFFFFL), 1);
        due("int", x.value(0, 1), Integer.MAX_VALUE);
        x.column(1, LONG, false);
        due("long", x.add(1, Long.MIN_VALUE), 0);
        due("long", x.value(1, 0), Long.MIN_VALUE);
        x.column(2, TEXT, true);
        due("text", x.add(2, 1), NOT);
        x.column(3, TRUTH, false);
        x.add(3, 0x100000000L);
        x.add(3, 0);
        x.add(3, -5);
        due("truth", x.value(3, 0), 1);
        due("truth", x.value(3, 1), 0);
        due("truth", x.value(3, 2), 1);
        for (int i = 2; i < 200; i++) {
            due("add " + i, x.add(0, i), i);
        }
        due("full", x.add(0, 1), FULL);
        due("full", x.told(0, 2), 200);
    }

    private static void typeAndAddText() {
        ColumnPages x = new ColumnPages();
        x.column(0, TEXT, false);
        due("type 0", x.type(1, 0), BAD);
        due("type -1", x.type(1, -1), BAD);
        due("type 9", x.type(1, 9), BAD);
        due("type 3", x.type(0x99616263L, 3), 3);
        due("type 1", x.type(0x1FFL, 1), 4);
        due("addText -1", x.addText(-1), BAD);
        due("addText 4", x.addText(4), BAD);
        due("addText to an int", x.addText(1), NOT);
        due("addText", x.addText(0), 0);
        int[] letters = {0x61, 0x62, 0x63, 0xFF};
        for (int k = 0; k < 4; k++) {
            due("letter " + k, x.letter(0, 0, k), letters[k]);
        }
        due("tape is empty", x.addText(0), 1);
        due("length", x.value(0, 1), 0);
        for (int i = 1; i <= 5; i++) {
            due("type 8", x.type(0x0102030405060708L, 8), 8 * i);
        }
        due("tape full", x.type(0, 1), FULL);
        due("bad ahead of full", x.type(0, 9), BAD);
        due("addText", x.addText(0), 2);
        due("first", x.letter(0, 2, 32), 1);
        due("last", x.letter(0, 2, 39), 8);
        x.type(1, 7);
        due("33 more", x.type(1, 8) + x.type(1, 8) + x.type(1, 8) + x.type(1, 8), 15 + 23 + 31 + 39);
        due("too many", x.type(1, 2), FULL);
        due("just 40", x.type(1, 1), 40);
        x.addText(0);
        for (int i = 4; i < 200; i++) {
            x.addText(0);
        }
        x.type(65, 1);
        due("addText full", x.addText(0), FULL);
        x.column(0, TEXT, false);
        due("tape stayed", x.addText(0), 0);
        due("its letter", x.letter(0, 0, 0), 65);
    }

    private static void addNone() {
        ColumnPages x = new ColumnPages();
        due("addNone -1", x.addNone(-1), BAD);
        due("addNone 4", x.addNone(4), BAD);
        due("not optional", x.addNone(0), NOT);
        x.column(0, TRUTH, true);
        x.add(0, 1);
        due("addNone", x.addNone(0), 1);
        due("there", x.has(0, 1), 0);
        due("value", x.value(0, 1), 0);
        due("absent", x.told(0, 3), 1);
        x.repeat(0, 2, 100);
        due("full", x.addNone(0), FULL);
        x.repeat(0, 0, 1);
        x.addNone(0);
        due("where a value was", x.has(0, 0), 0);
        due("where a value was", x.value(0, 0), 0);
        x.column(1, INT, false);
        x.add(1, 1);
        x.repeat(1, 1, 200);
        due("not optional ahead of full", x.addNone(1), NOT);
    }

    private static void repeat() {
        ColumnPages x = new ColumnPages();
        x.column(0, TEXT, true);
        Check.text(x, 0, "a");
        x.addNone(0);
        Check.text(x, 0, "bc");
        due("column -1", x.repeat(-1, 0, 1), BAD);
        due("column 4", x.repeat(4, 0, 1), BAD);
        due("k -1", x.repeat(0, -1, 1), BAD);
        due("k 4", x.repeat(0, 4, 1), BAD);
        due("n 0", x.repeat(0, 3, 0), BAD);
        due("n 201", x.repeat(0, 3, 201), BAD);
        due("n 201 of none", x.repeat(0, 0, 201), BAD);
        due("201 values", x.repeat(0, 3, 67), FULL);
        due("stays", x.told(0, 2), 3);
        due("each", x.repeat(0, 3, 3), 9);
        long[] lengths = {1, 1, 1, 0, 0, 0, 2, 2, 2};
        for (int i = 0; i < 9; i++) {
            due("length " + i, x.value(0, i), lengths[i]);
            due("there " + i, x.has(0, i), i / 3 == 1 ? 0 : 1);
        }
        due("letter", x.letter(0, 8, 1), 'c');
        due("the first alone", x.repeat(0, 4, 1), 4);
        due("absent", x.told(0, 3), 1);
        due("200", x.repeat(0, 4, 50), 200);
        due("last", x.has(0, 199), 0);
        due("last that is there", x.letter(0, 149, 0), 'a');
        due("none", x.repeat(0, 0, 200), 0);
        due("none", x.told(0, 2), 0);
        due("none of none", x.repeat(0, 0, 1), 0);
    }

    private static void told() {
        ColumnPages x = new ColumnPages();
        x.column(2, LONG, true);
        Check.numbers(x, 2, 5, 0, 5, 1L << 32, 0);
        x.addNone(2);
        x.addNone(2);
        due("kind", x.told(2, 0), LONG);
        due("optional", x.told(2, 1), 1);
        due("values", x.told(2, 2), 7);
        due("absent", x.told(2, 3), 2);
        due("unlike", x.told(2, 4), 3);
        due("what -1", x.told(2, -1), BAD);
        due("what 5", x.told(2, 5), BAD);
        due("column -1", x.told(-1, 0), BAD);
        due("column 4", x.told(4, 0), BAD);
        x.column(1, TEXT, true);
        String[] texts = {"", "a", "b", "ab", "a", "", "aa", "ac"};
        for (String text : texts) {
            Check.text(x, 1, text);
        }
        x.addNone(1);
        due("unlike texts", x.told(1, 4), 6);
    }

    private static void hasAndValue() {
        ColumnPages x = new ColumnPages();
        x.column(1, INT, true);
        x.add(1, -7);
        x.addNone(1);
        due("has", x.has(1, 0), 1);
        due("has none", x.has(1, 1), 0);
        due("has -1", x.has(1, -1), BAD);
        due("has beyond", x.has(1, 2), BAD);
        due("has 200", x.has(1, 200), BAD);
        due("has of column -1", x.has(-1, 0), BAD);
        due("has of column 4", x.has(4, 0), BAD);
        due("value", x.value(1, 0), -7);
        due("value absent", x.value(1, 1), 0);
        due("value -1", x.value(1, -1), 0);
        due("value beyond", x.value(1, 2), 0);
        due("value of column -1", x.value(-1, 0), 0);
        due("value of column 4", x.value(4, 0), 0);
        x.repeat(1, 1, 1);
        due("value that went", x.value(1, 1), 0);
        x.column(1, INT, true);
        due("value of none", x.value(1, 0), 0);
        due("has of none", x.has(1, 0), BAD);
        x.column(2, TEXT, false);
        Check.text(x, 2, "four");
        due("length", x.value(2, 0), 4);
    }

    private static void letter() {
        ColumnPages x = new ColumnPages();
        x.column(0, TEXT, true);
        Check.text(x, 0, "a" + (char) 200);
        x.addNone(0);
        x.add(1, 5);
        due("letter", x.letter(0, 0, 0), 'a');
        due("letter", x.letter(0, 0, 1), 200);
        due("k -1", x.letter(0, 0, -1), BAD);
        due("k 2", x.letter(0, 0, 2), BAD);
        due("absent", x.letter(0, 1, 0), BAD);
        due("i -1", x.letter(0, -1, 0), BAD);
        due("i beyond", x.letter(0, 2, 0), BAD);
        due("no text", x.letter(1, 0, 0), BAD);
        due("column -1", x.letter(-1, 0, 0), BAD);
        due("column 4", x.letter(4, 0, 0), BAD);
        x.repeat(0, 0, 1);
        due("a text that went", x.letter(0, 0, 0), BAD);
    }

    private static void alike() {
        ColumnPages x = new ColumnPages();
        due("empty", x.alike(0, 1), 1);
        due("itself", x.alike(2, 2), 1);
        due("column -1", x.alike(-1, 0), BAD);
        due("column 4", x.alike(0, 4), BAD);
        x.column(1, INT, true);
        due("optional or not", x.alike(0, 1), 1);
        x.add(0, 0);
        due("how many", x.alike(0, 1), 0);
        x.addNone(1);
        due("absent", x.alike(0, 1), 0);
        x.column(1, INT, true);
        x.add(1, 0);
        due("like", x.alike(0, 1), 1);
        x.add(0, 4);
        x.add(1, 5);
        due("unlike", x.alike(1, 0), 0);
        x.column(1, LONG, false);
        x.column(0, INT, false);
        due("kind", x.alike(0, 1), 0);
        x.column(0, TEXT, true);
        x.column(1, TEXT, false);
        Check.text(x, 0, "ab");
        Check.text(x, 1, "ab");
        due("texts", x.alike(0, 1), 1);
        Check.text(x, 0, "ab");
        Check.text(x, 1, "ac");
        due("unlike texts", x.alike(0, 1), 0);
        x.column(1, TEXT, true);
        Check.text(x, 1, "ab");
        Check.text(x, 1, "abc");
        due("longer text", x.alike(0, 1), 0);
        x.column(0, TEXT, true);
        x.column(1, TEXT, true);
        Check.text(x, 0, "");
        x.addNone(1);
        due("empty and absent", x.alike(0, 1), 0);
    }

    private static void nothingChangesByAnAnswerBelowZero() {
        ColumnPages x = new ColumnPages();
        x.column(0, TEXT, true);
        x.type(65, 1);
        x.add(0, 1);
        x.type(65, 9);
        x.addText(1);
        x.addNone(1);
        due("texts", x.told(0, 2), 0);
        due("ints", x.told(1, 2), 0);
        due("tape", x.type(66, 1), 2);
    }
}
