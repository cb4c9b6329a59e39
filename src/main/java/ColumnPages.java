/** Columns of values, written as pages of bytes and read again from bytes of any origin. */
public final class ColumnPages {
    public static final int BAD = -1, NOT = -2, FULL = -3;

    private static final int INT = 0, LONG = 1, TEXT = 2, TRUTH = 3;
    private static final int COLUMNS = 4;
    private static final int MOST_VALUES = 200, MOST_LETTERS = 40, MOST_BYTES = 12000;
    private static final int MOST_PUT = 8;

    private static final int WAY_PLAIN = 0, WAY_DICTIONARY = 1, WAY_PACKED = 2;

    private static final int CODE_PLAIN = 0, CODE_TRUTH_RUNS = 3, CODE_DIFFERENCES = 5;
    private static final int CODE_LENGTHS = 6, CODE_PLACES = 8;

    private static final int DATA = 0, DICTIONARY = 2;
    private static final int FIELD_ZIG = 0x15, FIELD_DATA = 0x2C, FIELD_DICTIONARY = 0x4C, FIELDS_END = 0;

    private static final int GROUP = 8, BLOCK = 128, PARTS = 4, PART = 32;
    private static final int MOST_PLACE_BITS = 32;
    private static final long INT_MASK = 0xFFFFFFFFL;

    private static final int ENDED = 1, VAR_TOO_WIDE = 2, WRONG_RUN = 3, WRONG_BITS = 4;
    private static final int WRONG_DIFFERENCES = 5, WRONG_PART = 6, WRONG_FIELD = 7, WRONG_HEAD = 8;
    private static final int LATE_DICTIONARY = 9, WRONG_LENGTH = 10, WRONG_WIDTH = 11;
    private static final int WRONG_PLACE = 12, LEFT_OVER = 13;
    private static final int FAULT_ANSWER = -10;

    private final Column[] columns;
    private final Row tape;
    private final Row file;
    private final PageWriter writer;
    private final PageReader reader;

    public ColumnPages() {
        columns = new Column[COLUMNS];
        for (int c = 0; c < COLUMNS; c++) {
            columns[c] = new Column();
        }
        tape = new Row(MOST_LETTERS);
        file = new Row(MOST_BYTES);
        writer = new PageWriter();
        reader = new PageReader();
    }

    // ---- 1 columns

    /** Makes a column anew, without values; answers how many it had. */
    public int column(int c, int kind, boolean optional) {
        Column column = columnAt(c);
        if (column == null || kind < INT || kind > TRUTH) {
            return BAD;
        }
        int had = column.count;
        column.begin(kind, optional);
        return had;
    }

    /** Adds a number; answers its place. */
    public int add(int c, long v) {
        Column column = columnAt(c);
        if (column == null) {
            return BAD;
        }
        if (column.kind == TEXT) {
            return NOT;
        }
        if (column.count >= MOST_VALUES) {
            return FULL;
        }
        column.pushNumber(v);
        return column.count - 1;
    }

    /** Appends bytes to the tape, the highest first; answers how many it has. */
    public int type(long w, int n) {
        if (n < 1 || n > MOST_PUT) {
            return BAD;
        }
        if (tape.count + n > MOST_LETTERS) {
            return FULL;
        }
        for (int i = n - 1; i >= 0; i--) {
            tape.push((int) (w >>> (8 * i)));
        }
        return tape.count;
    }

    /** Adds the tape as a text and empties it; answers the text's place. */
    public int addText(int c) {
        Column column = columnAt(c);
        if (column == null) {
            return BAD;
        }
        if (column.kind != TEXT) {
            return NOT;
        }
        if (column.count >= MOST_VALUES) {
            return FULL;
        }
        column.pushText(tape, 0, tape.count);
        tape.clear();
        return column.count - 1;
    }

    /** Adds an absent value; answers its place. */
    public int addNone(int c) {
        Column column = columnAt(c);
        if (column == null) {
            return BAD;
        }
        if (!column.optional) {
            return NOT;
        }
        if (column.count >= MOST_VALUES) {
            return FULL;
        }
        column.pushNone();
        return column.count - 1;
    }

    /** Keeps the first k values alone, each n times; answers how many there are then. */
    public int repeat(int c, int k, int n) {
        Column column = columnAt(c);
        if (column == null || k < 0 || k > column.count || n < 1 || n > MOST_VALUES) {
            return BAD;
        }
        if (k * n > MOST_VALUES) {
            return FULL;
        }
        column.multiply(k, n);
        return column.count;
    }

    /** Tells of a column: its kind, whether it is optional, its values, absent ones, unlike ones. */
    public int told(int c, int what) {
        Column column = columnAt(c);
        if (column == null) {
            return BAD;
        }
        switch (what) {
            case 0:
                return column.kind;
            case 1:
                return column.optional ? 1 : 0;
            case 2:
                return column.count;
            case 3:
                return column.countAbsent();
            case 4:
                return column.countUnlike();
            default:
                return BAD;
        }
    }

    /** Whether a value is there. */
    public int has(int c, int i) {
        Column column = columnAt(c);
        if (column == null || !column.holds(i)) {
            return BAD;
        }
        return column.isThere(i) ? 1 : 0;
    }

    /** A value as a number, of a text its length; 0 of one that is not there. */
    public long value(int c, int i) {
        Column column = columnAt(c);
        if (column == null || !column.holds(i)) {
            return 0;
        }
        return column.numberAt(i);
    }

    /** A byte of a text. */
    public int letter(int c, int i, int k) {
        Column column = columnAt(c);
        if (column == null || column.kind != TEXT || !column.holds(i) || !column.isThere(i)) {
            return BAD;
        }
        if (k < 0 || k >= column.numberAt(i)) {
            return BAD;
        }
        return column.letterAt(i, k);
    }

    /** Whether two columns are of one kind and have like values. */
    public int alike(int c, int d) {
        Column one = columnAt(c);
        Column other = columnAt(d);
        if (one == null || other == null) {
            return BAD;
        }
        return one.isLike(other) ? 1 : 0;
    }

    // ---- 2 pages

    /** Writes a column to the file; answers how many bytes the file has then. */
    public int write(int c, int way, int q, boolean behind) {
        Column column = columnAt(c);
        if (column == null || way < WAY_PLAIN || way > WAY_PACKED || q < 1 || q > MOST_VALUES) {
            return BAD;
        }
        if (way == WAY_DICTIONARY && column.kind == TRUTH) {
            return BAD;
        }
        writer.writePages(column, way, q);
        int kept = behind ? file.count : 0;
        if (writer.out.over || kept + writer.out.count > MOST_BYTES) {
            return FULL;
        }
        file.shorten(kept);
        file.append(writer.out);
        return file.count;
    }

    /** Reads the file as a column; answers how many values, or tells the fault. */
    public int read(int c) {
        Column column = columnAt(c);
        if (column == null) {
            return BAD;
        }
        reader.readPages(file, column.kind, column.optional);
        if (!reader.source.isSound()) {
            return FAULT_ANSWER - reader.source.trouble;
        }
        column.become(reader.fresh);
        return column.count;
    }

    /** Tells of the latest read: its fault, the fault's place, whole pages, dictionary values. */
    public int fault(int what) {
        switch (what) {
            case 0:
                return reader.source.trouble;
            case 1:
                return reader.source.troublePlace;
            case 2:
                return reader.wholePages;
            case 3:
                return reader.dictionary.count;
            default:
                return BAD;
        }
    }

    // ---- 3 the file

    /** How many bytes the file has. */
    public int size() {
        return file.count;
    }

    /** A byte of the file. */
    public int byteAt(int i) {
        return i < 0 || i >= file.count ? BAD : file.get(i);
    }

    /** Changes a byte of the file by a mask; answers the new one. */
    public int poke(int i, int mask) {
        if (i < 0 || i >= file.count) {
            return BAD;
        }
        file.set(i, file.get(i) ^ mask);
        return file.get(i);
    }

    /** Keeps the first n bytes of the file alone; answers how many went. */
    public int cut(int n) {
        if (n < 0 || n > file.count) {
            return BAD;
        }
        int went = file.count - n;
        file.shorten(n);
        return went;
    }

    /** Appends bytes to the file, the lowest first; answers how many it has. */
    public int put(long w, int n) {
        if (n < 1 || n > MOST_PUT) {
            return BAD;
        }
        if (file.count + n > MOST_BYTES) {
            return FULL;
        }
        file.pushLittle(w, n);
        return file.count;
    }

    private Column columnAt(int c) {
        return c < 0 || c >= columns.length ? null : columns[c];
    }

    private static long zigged(long v) {
        return (v << 1) ^ (v >> 63);
    }

    private static long unzigged(long z) {
        return (z >>> 1) ^ -(z & 1);
    }

    /** How many bits a number without sign needs: 0 for 0. */
    private static int bitsOf(long v) {
        int bits = 0;
        while (bits < 64 && (v >>> bits) != 0) {
            bits++;
        }
        return bits;
    }

    private static int wholeGroups(int n) {
        return (n + GROUP - 1) / GROUP;
    }

    /** A column: its kind and its values; of a text the number is its length. */
    static final class Column {
        int kind;
        boolean optional;
        int count;
        final boolean[] there;
        final long[] numbers;
        final byte[] letters;

        Column() {
            there = new boolean[MOST_VALUES];
            numbers = new long[MOST_VALUES];
            letters = new byte[MOST_VALUES * MOST_LETTERS];
        }

        void begin(int newKind, boolean newOptional) {
            kind = newKind;
            optional = newOptional;
            count = 0;
        }

        boolean holds(int i) {
            return i >= 0 && i < count && i < MOST_VALUES;
        }

        boolean isThere(int i) {
            return i >= 0 && i < MOST_VALUES && there[i];
        }

        long numberAt(int i) {
            return i >= 0 && i < MOST_VALUES ? numbers[i] : 0;
        }

        int letterAt(int i, int k) {
            if (i < 0 || i >= MOST_VALUES || k < 0 || k >= MOST_LETTERS) {
                return 0;
            }
            return letters[i * MOST_LETTERS + k] & 255;
        }

        void pushNumber(long v) {
            if (count < 0 || count >= MOST_VALUES) {
                return;
            }
            there[count] = true;
            numbers[count] = kind == INT ? (int) v : kind == TRUTH ? (v != 0 ? 1 : 0) : v;
            count++;
        }

        void pushText(Row row, int from, int length) {
            if (count < 0 || count >= MOST_VALUES || length < 0 || length > MOST_LETTERS) {
                return;
            }
            for (int k = 0; k < length; k++) {
                letters[count * MOST_LETTERS + k] = (byte) row.get(from + k);
            }
            there[count] = true;
            numbers[count] = length;
            count++;
        }

        void pushNone() {
            if (count < 0 || count >= MOST_VALUES) {
                return;
            }
            setNone(count);
            count++;
        }

        void pushCopy(Column from, int j) {
            if (count < 0 || count >= MOST_VALUES) {
                return;
            }
            setCopy(count, from, j);
            count++;
        }

        private void setNone(int i) {
            if (i >= 0 && i < MOST_VALUES) {
                there[i] = false;
                numbers[i] = 0;
            }
        }

        private void setCopy(int i, Column from, int j) {
            if (i < 0 || i >= MOST_VALUES || j < 0 || j >= MOST_VALUES) {
                return;
            }
            there[i] = from.there[j];
            numbers[i] = from.numbers[j];
            if (kind == TEXT) {
                for (int k = 0; k < MOST_LETTERS && k < numbers[i]; k++) {
                    letters[i * MOST_LETTERS + k] = from.letters[j * MOST_LETTERS + k];
                }
            }
        }

        /** From the last value on, so that no value is overwritten before it was copied. */
        void multiply(int k, int n) {
            for (int i = k - 1; i >= 0; i--) {
                for (int t = n - 1; t >= 0; t--) {
                    setCopy(i * n + t, this, i);
                }
            }
            count = k * n;
        }

        /** Moves the values from a place on to where the levels are 1, from the last one on. */
        void spread(int from, int many, long[] levels) {
            int source = count;
            for (int i = many - 1; i >= 0; i--) {
                if (i < levels.length && levels[i] != 0) {
                    source--;
                    setCopy(from + i, this, source);
                } else {
                    setNone(from + i);
                }
            }
            count = Math.min(from + many, MOST_VALUES);
        }

        void become(Column other) {
            begin(other.kind, other.optional);
            for (int i = 0; i < other.count; i++) {
                pushCopy(other, i);
            }
        }

        private boolean isSame(int i, Column other, int j) {
            if (isThere(i) != other.isThere(j) || numberAt(i) != other.numberAt(j)) {
                return false;
            }
            if (kind != TEXT) {
                return true;
            }
            long length = numberAt(i);
            for (int k = 0; k < MOST_LETTERS && k < length; k++) {
                if (letterAt(i, k) != other.letterAt(j, k)) {
                    return false;
                }
            }
            return true;
        }

        boolean isLike(Column other) {
            if (kind != other.kind || count != other.count) {
                return false;
            }
            for (int i = 0; i < count; i++) {
                if (!isSame(i, other, i)) {
                    return false;
                }
            }
            return true;
        }

        /** The first value that is like value i. */
        int firstLike(int i) {
            for (int j = 0; j < i; j++) {
                if (isSame(j, this, i)) {
                    return j;
                }
            }
            return i;
        }

        int countAbsent() {
            int absent = 0;
            for (int i = 0; i < count; i++) {
                absent += isThere(i) ? 0 : 1;
            }
            return absent;
        }

        int countUnlike() {
            int unlike = 0;
            for (int i = 0; i < count; i++) {
                unlike += isThere(i) && firstLike(i) == i ? 1 : 0;
            }
            return unlike;
        }
    }

    /** A row of bytes with a bound, and the forms of numbers written behind it. */
    static final class Row {
        final byte[] bytes;
        int count;
        /** Whether something was not kept because of the bound. */
        boolean over;

        Row(int most) {
            bytes = new byte[most < 0 ? 0 : most];
        }

        void clear() {
            count = 0;
            over = false;
        }

        void shorten(int n) {
            count = Math.max(0, Math.min(n, count));
        }

        int get(int i) {
            return i >= 0 && i < count && i < bytes.length ? bytes[i] & 255 : 0;
        }

        void set(int i, int b) {
            if (i >= 0 && i < count && i < bytes.length) {
                bytes[i] = (byte) b;
            }
        }

        void push(int b) {
            if (count < 0 || count >= bytes.length) {
                over = true;
                return;
            }
            bytes[count] = (byte) b;
            count++;
        }

        void append(Row other) {
            over = over || other.over;
            for (int i = 0; i < other.count; i++) {
                push(other.get(i));
            }
        }

        void pushLittle(long w, int n) {
            for (int i = 0; i < n; i++) {
                push((int) (w >>> (8 * i)));
            }
        }

        void pushVar(long v) {
            long rest = v;
            for (int i = 0; i < 9 && (rest >>> 7) != 0; i++) {
                push((int) (rest & 127) + 128);
                rest = rest >>> 7;
            }
            push((int) rest);
        }

        /** Puts how many bytes stand behind a place of four bytes there. */
        void tellLength(int place) {
            int length = count - place - 4;
            for (int i = 0; i < 4; i++) {
                set(place + i, length >>> (8 * i));
            }
        }

        /** So many numbers of a width in bits, those from 'to' on as 0. */
        void pushPacked(long[] numbers, int from, int to, int many, int width) {
            int gathered = 0;
            int bits = 0;
            for (int i = from; i < from + many; i++) {
                long number = i >= 0 && i < to && i < numbers.length ? numbers[i] : 0;
                for (int bit = 0; bit < width; bit++) {
                    gathered = gathered | ((int) ((number >>> bit) & 1) << bits);
                    bits++;
                    if (bits == 8) {
                        push(gathered);
                        gathered = 0;
                        bits = 0;
                    }
                }
            }
        }

        void pushRuns(long[] numbers, int n, int width) {
            int i = 0;
            for (int run = 0; run < n && i < n && i < numbers.length; run++) {
                int equal = equalFrom(numbers, i, n);
                if (equal >= GROUP) {
                    pushVar(2L * equal);
                    pushLittle(numbers[i], (width + 7) / 8);
                    i += equal;
                } else {
                    int end = groupsEnd(numbers, i, n);
                    int groups = wholeGroups(end - i);
                    pushVar(2L * groups + 1);
                    pushPacked(numbers, i, end, groups * GROUP, width);
                    i += groups * GROUP;
                }
            }
        }

        /** Where groups from i on end: ahead of eight alike numbers, or with the last number. */
        private static int groupsEnd(long[] numbers, int i, int n) {
            int end = i + GROUP;
            while (end < n && equalFrom(numbers, end, n) < GROUP) {
                end += GROUP;
            }
            return Math.min(end, n);
        }

        /** How many numbers from i on are alike; at least 1. */
        private static int equalFrom(long[] numbers, int i, int n) {
            int end = i + 1;
            while (i >= 0 && end < n && end < numbers.length && numbers[end] == numbers[i]) {
                end++;
            }
            return end - i;
        }

        /** The numbers are used up: their differences come in their place. */
        void pushDifferences(long[] numbers, int n, boolean ints) {
            pushVar(BLOCK);
            pushVar(PARTS);
            pushVar(n);
            pushVar(zigged(n > 0 && numbers.length > 0 ? numbers[0] : 0));
            for (int i = Math.min(n, numbers.length) - 1; i > 0; i--) {
                long step = numbers[i] - numbers[i - 1];
                numbers[i] = ints ? (int) step : step;
            }
            for (int from = 1; from < n; from += BLOCK) {
                pushBlock(numbers, from, Math.min(Math.min(from + BLOCK, n), numbers.length), ints);
            }
        }

        private void pushBlock(long[] steps, int from, int to, boolean ints) {
            long least = lowerToLeast(steps, from, to, ints);
            pushVar(zigged(least));
            for (int part = 0; part < PARTS; part++) {
                push(partWidth(steps, from + part * PART, to));
            }
            for (int part = 0; part < PARTS; part++) {
                int start = from + part * PART;
                if (start < to) {
                    pushPacked(steps, start, to, PART, partWidth(steps, start, to));
                }
            }
        }

        /** Takes the least step from each of them; answers it. */
        private static long lowerToLeast(long[] steps, int from, int to, boolean ints) {
            long least = from >= 0 && from < steps.length ? steps[from] : 0;
            for (int i = Math.max(from, 0); i < to && i < steps.length; i++) {
                least = Math.min(least, steps[i]);
            }
            for (int i = Math.max(from, 0); i < to && i < steps.length; i++) {
                long rest = steps[i] - least;
                steps[i] = ints ? rest & INT_MASK : rest;
            }
            return least;
        }

        private static int partWidth(long[] steps, int start, int to) {
            long all = 0;
            for (int i = Math.max(start, 0); i < start + PART && i < to && i < steps.length; i++) {
                all = all | steps[i];
            }
            return bitsOf(all);
        }
    }

    /** The bytes of a file as they are read, with the first fault; behind a fault there are none. */
    static final class Source {
        private Row row;
        int spot;
        /** Where the bytes end: those of the file, or of the part of it that is being read. */
        int end;
        int trouble;
        int troublePlace;
        private final int[] widths;

        Source() {
            widths = new int[PARTS];
        }

        void begin(Row file) {
            row = file;
            spot = 0;
            end = file.count;
            trouble = 0;
            troublePlace = 0;
        }

        boolean isSound() {
            return trouble == 0;
        }

        int left() {
            return end - spot;
        }

        /** Only the first fault counts. */
        void demand(boolean good, int otherwise, int place) {
            if (trouble == 0 && !good) {
                trouble = otherwise;
                troublePlace = place;
            }
        }

        int next() {
            if (trouble != 0 || row == null) {
                return 0;
            }
            if (spot < 0 || spot >= end || spot >= row.bytes.length) {
                trouble = ENDED;
                troublePlace = spot;
                return 0;
            }
            int b = row.bytes[spot] & 255;
            spot++;
            return b;
        }

        void expect(int b) {
            int place = spot;
            demand(next() == b, WRONG_FIELD, place);
        }

        void demandNothingLeft() {
            demand(spot >= end, LEFT_OVER, spot);
        }

        long nextLittle(int n) {
            long v = 0;
            for (int i = 0; i < n; i++) {
                v = v | ((long) next() << (8 * i));
            }
            return v;
        }

        long nextVar() {
            long v = 0;
            for (int i = 0; i < 10; i++) {
                int b = next();
                v = v | ((long) (b & 127) << (7 * i));
                if (i == 9) {
                    demand(b <= 1, VAR_TOO_WIDE, spot - 1);
                }
                if (b < 128) {
                    break;
                }
            }
            return v;
        }

        /** A text of a length that was looked at before. */
        void nextText(Column into, int length) {
            if (trouble == 0 && row != null && length >= 0 && length <= left()) {
                into.pushText(row, spot, length);
                spot += length;
            }
        }

        /** So many numbers of a width in bits; those from 'to' on are read, but not kept. */
        void nextPacked(long[] numbers, int from, int to, int many, int width) {
            int held = 0;
            int bits = 0;
            for (int i = from; i < from + many && trouble == 0; i++) {
                long number = 0;
                for (int bit = 0; bit < width; bit++) {
                    if (bits == 0) {
                        held = next();
                        bits = 8;
                    }
                    number = number | ((long) (held & 1) << bit);
                    held = held >> 1;
                    bits--;
                }
                if (i >= 0 && i < to && i < numbers.length) {
                    numbers[i] = number;
                }
            }
        }

        void nextRuns(long[] numbers, int n, int width) {
            int done = 0;
            for (int run = 0; run < n && done < n && trouble == 0; run++) {
                int place = spot;
                long h = nextVar();
                boolean grouped = (h & 1) != 0;
                long many = h >>> 1;
                long most = grouped ? wholeGroups(n - done) : n - done;
                demand(many >= 1 && many <= most, WRONG_RUN, place);
                if (trouble != 0) {
                    return;
                }
                if (grouped) {
                    nextPacked(numbers, done, n, (int) many * GROUP, width);
                    done += (int) many * GROUP;
                } else {
                    place = spot;
                    long number = nextLittle((width + 7) / 8);
                    demand(bitsOf(number) <= width, WRONG_BITS, place);
                    fill(numbers, done, done + (int) many, number);
                    done += (int) many;
                }
            }
        }

        private static void fill(long[] numbers, int from, int to, long number) {
            for (int i = Math.max(from, 0); i < to && i < numbers.length; i++) {
                numbers[i] = number;
            }
        }

        void nextDifferences(long[] numbers, int n, boolean ints) {
            int start = spot;
            demand(nextVar() == BLOCK, WRONG_DIFFERENCES, start);
            demand(nextVar() == PARTS, WRONG_DIFFERENCES, start);
            demand(nextVar() == n, WRONG_DIFFERENCES, start);
            long last = unzigged(nextVar());
            if (n > 0 && numbers.length > 0) {
                numbers[0] = ints ? (int) last : last;
            }
            for (int from = 1; from < n && trouble == 0; from += BLOCK) {
                int to = Math.min(from + BLOCK, n);
                long least = unzigged(nextVar());
                nextWidths(to - from, ints ? 32 : 64);
                for (int part = 0; part < PARTS && from + part * PART < to; part++) {
                    nextPacked(numbers, from + part * PART, to, PART, widths[part]);
                }
                for (int i = from; i < to && i < numbers.length; i++) {
                    long number = numbers[i - 1] + least + numbers[i];
                    numbers[i] = ints ? (int) number : number;
                }
            }
        }

        private void nextWidths(int many, int most) {
            for (int part = 0; part < PARTS; part++) {
                int place = spot;
                int width = next();
                demand(width <= (many > part * PART ? most : 0), WRONG_PART, place);
                widths[part] = trouble == 0 ? width : 0;
            }
        }
    }

    /** Writes a column as pages, into a row of its own. */
    static final class PageWriter {
        final Row out;
        private final Row body;
        /** Values that are to be written next, by their places in the column. */
        private final int[] chosen;
        private int chosenCount;
        /** Each value's place in the dictionary. */
        private final int[] places;
        private int unlike;
        private final long[] numbers;

        PageWriter() {
            out = new Row(MOST_BYTES);
            body = new Row(MOST_BYTES);
            chosen = new int[MOST_VALUES];
            places = new int[MOST_VALUES];
            numbers = new long[MOST_VALUES];
        }

        void writePages(Column column, int way, int q) {
            out.clear();
            if (way == WAY_DICTIONARY && column.count > 0) {
                dictionaryPage(column);
            }
            int step = Math.max(q, 1);
            for (int from = 0; from < column.count; from += step) {
                dataPage(column, from, Math.min(from + step, column.count), codeOf(column.kind, way));
            }
        }

        private static int codeOf(int kind, int way) {
            if (way == WAY_PLAIN) {
                return CODE_PLAIN;
            }
            if (way == WAY_DICTIONARY) {
                return CODE_PLACES;
            }
            return kind == TEXT ? CODE_LENGTHS : kind == TRUTH ? CODE_TRUTH_RUNS : CODE_DIFFERENCES;
        }

        private void dictionaryPage(Column column) {
            body.clear();
            chooseUnlike(column);
            pushPlain(column);
            pushHead(DICTIONARY, unlike, CODE_PLAIN);
            out.append(body);
        }

        private void dataPage(Column column, int from, int to, int code) {
            body.clear();
            if (column.optional) {
                gatherLevels(column, from, to);
                pushOwnRuns(to - from);
            }
            chooseThere(column, from, to);
            switch (code) {
                case CODE_PLAIN:
                    pushPlain(column);
                    break;
                case CODE_DIFFERENCES:
                    gatherNumbers(column);
                    body.pushDifferences(numbers, chosenCount, column.kind == INT);
                    break;
                case CODE_LENGTHS:
                    gatherNumbers(column);
                    body.pushDifferences(numbers, chosenCount, true);
                    pushAllLetters(column);
                    break;
                case CODE_TRUTH_RUNS:
                    gatherNumbers(column);
                    pushOwnRuns(chosenCount);
                    break;
                default:
                    pushPlaces();
                    break;
            }
            pushHead(DATA, to - from, code);
            out.append(body);
        }

        private void pushHead(int what, int many, int code) {
            out.push(FIELD_ZIG);
            out.pushVar(zigged(what));
            out.push(FIELD_ZIG);
            out.pushVar(zigged(body.count));
            out.push(FIELD_ZIG);
            out.pushVar(zigged(body.count));
            out.push(what == DATA ? FIELD_DATA : FIELD_DICTIONARY);
            out.push(FIELD_ZIG);
            out.pushVar(zigged(many));
            out.push(FIELD_ZIG);
            out.pushVar(zigged(code));
            out.push(FIELDS_END);
            out.push(FIELDS_END);
        }

        private void chooseThere(Column column, int from, int to) {
            chosenCount = 0;
            for (int i = from; i < to; i++) {
                if (column.isThere(i) && chosenCount >= 0 && chosenCount < chosen.length) {
                    chosen[chosenCount] = i;
                    chosenCount++;
                }
            }
        }

        private void chooseUnlike(Column column) {
            chosenCount = 0;
            for (int i = 0; i < column.count && i < places.length; i++) {
                places[i] = 0;
                int first = column.isThere(i) ? column.firstLike(i) : -1;
                if (first >= 0 && first < i) {
                    places[i] = places[first];
                } else if (first == i && chosenCount >= 0 && chosenCount < chosen.length) {
                    chosen[chosenCount] = i;
                    places[i] = chosenCount;
                    chosenCount++;
                }
            }
            unlike = chosenCount;
        }

        private void gatherNumbers(Column column) {
            for (int t = 0; t < chosenCount && t < chosen.length && t < numbers.length; t++) {
                numbers[t] = column.numberAt(chosen[t]);
            }
        }

        private void gatherLevels(Column column, int from, int to) {
            for (int i = from; i >= 0 && i < to && i - from < numbers.length; i++) {
                numbers[i - from] = column.isThere(i) ? 1 : 0;
            }
        }

        /** RUNS of one bit, behind how many bytes they take. */
        private void pushOwnRuns(int many) {
            int place = body.count;
            body.pushLittle(0, 4);
            body.pushRuns(numbers, many, 1);
            body.tellLength(place);
        }

        private void pushPlain(Column column) {
            if (column.kind == TRUTH) {
                gatherNumbers(column);
                body.pushPacked(numbers, 0, chosenCount, wholeGroups(chosenCount) * GROUP, 1);
                return;
            }
            for (int t = 0; t < chosenCount && t < chosen.length; t++) {
                body.pushLittle(column.numberAt(chosen[t]), column.kind == LONG ? 8 : 4);
                if (column.kind == TEXT) {
                    pushLetters(column, chosen[t]);
                }
            }
        }

        private void pushAllLetters(Column column) {
            for (int t = 0; t < chosenCount && t < chosen.length; t++) {
                pushLetters(column, chosen[t]);
            }
        }

        private void pushLetters(Column column, int i) {
            long length = column.numberAt(i);
            for (int k = 0; k < MOST_LETTERS && k < length; k++) {
                body.push(column.letterAt(i, k));
            }
        }

        private void pushPlaces() {
            for (int t = 0; t < chosenCount && t < chosen.length && t < numbers.length; t++) {
                int i = chosen[t];
                numbers[t] = i >= 0 && i < places.length ? places[i] : 0;
            }
            int width = unlike > 1 ? bitsOf(unlike - 1) : 0;
            body.push(width);
            body.pushRuns(numbers, chosenCount, width);
        }
    }

    /** Reads pages into a fresh column, up to the first fault. */
    static final class PageReader {
        final Source source;
        final Column fresh;
        /** It has its values once all of them were read. */
        final Column dictionary;
        int wholePages;
        private boolean dictionaryRead;
        private boolean pageIsDictionary;
        private int pageValues;
        private int pageCode;
        private int zigPlace;
        private final long[] levels;
        private final long[] numbers;

        PageReader() {
            source = new Source();
            fresh = new Column();
            dictionary = new Column();
            levels = new long[MOST_VALUES];
            numbers = new long[MOST_VALUES];
        }

        void readPages(Row file, int kind, boolean optional) {
            source.begin(file);
            fresh.begin(kind, optional);
            dictionary.begin(kind, false);
            wholePages = 0;
            dictionaryRead = false;
            for (int page = 0; page < MOST_BYTES && source.isSound() && source.left() > 0; page++) {
                readHead();
                if (source.isSound() && pageIsDictionary) {
                    readDictionary();
                } else if (source.isSound()) {
                    readData();
                }
                source.demandNothingLeft();
                wholePages += source.isSound() ? 1 : 0;
                source.end = file.count;
            }
        }

        /** A HEAD; behind it the source ends where the BODY does. */
        private void readHead() {
            int start = source.spot;
            long what = nextZigField();
            boolean data = what == DATA;
            source.demand(data || what == DICTIONARY && fresh.kind != TRUTH, WRONG_HEAD, zigPlace);
            source.demand(data || wholePages == 0, LATE_DICTIONARY, start);
            long bytes = nextZigField();
            source.demand(bytes >= 0 && bytes <= source.left(), WRONG_HEAD, zigPlace);
            long bytesAgain = nextZigField();
            source.demand(bytesAgain == bytes, WRONG_HEAD, zigPlace);
            source.expect(data ? FIELD_DATA : FIELD_DICTIONARY);
            long many = nextZigField();
            int room = data ? MOST_VALUES - fresh.count : MOST_VALUES;
            source.demand(many >= 0 && many <= room, WRONG_HEAD, zigPlace);
            long code = nextZigField();
            source.demand(data ? isDataCode(code) : code == CODE_PLAIN, WRONG_HEAD, zigPlace);
            source.expect(FIELDS_END);
            source.expect(FIELDS_END);
            source.demand(bytes <= source.left(), ENDED, source.end);
            if (source.isSound()) {
                pageIsDictionary = !data;
                pageValues = (int) many;
                pageCode = (int) code;
                source.end = source.spot + (int) bytes;
            }
        }

        private long nextZigField() {
            source.expect(FIELD_ZIG);
            zigPlace = source.spot;
            return unzigged(source.nextVar());
        }

        private boolean isDataCode(long code) {
            if (code == CODE_DIFFERENCES) {
                return fresh.kind == INT || fresh.kind == LONG;
            }
            if (code == CODE_LENGTHS) {
                return fresh.kind == TEXT;
            }
            if (code == CODE_TRUTH_RUNS) {
                return fresh.kind == TRUTH;
            }
            if (code == CODE_PLACES) {
                return dictionaryRead;
            }
            return code == CODE_PLAIN;
        }

        private void readDictionary() {
            readPlain(dictionary, pageValues);
            if (source.isSound()) {
                dictionaryRead = true;
            } else {
                dictionary.count = 0;
            }
        }

        private void readData() {
            int before = fresh.count;
            int there = pageValues;
            if (fresh.optional) {
                readOwnRuns(levels, pageValues);
                there = countOnes(pageValues);
            }
            switch (pageCode) {
                case CODE_PLAIN:
                    readPlain(fresh, there);
                    break;
                case CODE_DIFFERENCES:
                    source.nextDifferences(numbers, there, fresh.kind == INT);
                    pushNumbers(there);
                    break;
                case CODE_LENGTHS:
                    readLengths(there);
                    break;
                case CODE_TRUTH_RUNS:
                    readOwnRuns(numbers, there);
                    pushNumbers(there);
                    break;
                default:
                    readPlaces(there);
                    break;
            }
            if (fresh.optional && source.isSound()) {
                fresh.spread(before, pageValues, levels);
            }
        }

        /** RUNS of one bit, behind how many bytes they take; these are their own. */
        private void readOwnRuns(long[] bits, int many) {
            int place = source.spot;
            int length = (int) source.nextLittle(4);
            source.demand(length >= 0 && length <= source.left(), WRONG_LENGTH, place);
            if (!source.isSound()) {
                return;
            }
            int outerEnd = source.end;
            source.end = source.spot + length;
            source.nextRuns(bits, many, 1);
            source.demandNothingLeft();
            source.end = outerEnd;
        }

        private int countOnes(int many) {
            int ones = 0;
            for (int i = 0; i < many && i < levels.length; i++) {
                ones += source.isSound() && levels[i] != 0 ? 1 : 0;
            }
            return ones;
        }

        private void pushNumbers(int many) {
            for (int t = 0; t < many && t < numbers.length && source.isSound(); t++) {
                fresh.pushNumber(numbers[t]);
            }
        }

        private void readPlain(Column into, int many) {
            if (into.kind == TRUTH) {
                source.nextPacked(numbers, 0, many, wholeGroups(many) * GROUP, 1);
                pushNumbers(many);
                return;
            }
            for (int t = 0; t < many && source.isSound(); t++) {
                if (into.kind != TEXT) {
                    into.pushNumber(source.nextLittle(into.kind == LONG ? 8 : 4));
                    continue;
                }
                int place = source.spot;
                int length = (int) source.nextLittle(4);
                boolean good = length >= 0 && length <= MOST_LETTERS && length <= source.left();
                source.demand(good, WRONG_LENGTH, place);
                source.nextText(into, length);
            }
        }

        private void readLengths(int many) {
            source.nextDifferences(numbers, many, true);
            long all = 0;
            boolean good = true;
            for (int t = 0; t < many && t < numbers.length; t++) {
                good = good && numbers[t] >= 0 && numbers[t] <= MOST_LETTERS;
                all += numbers[t];
            }
            source.demand(good && all <= source.left(), WRONG_LENGTH, source.spot);
            for (int t = 0; t < many && t < numbers.length && source.isSound(); t++) {
                source.nextText(fresh, (int) numbers[t]);
            }
        }

        private void readPlaces(int many) {
            int widthPlace = source.spot;
            int width = source.next();
            source.demand(width <= MOST_PLACE_BITS, WRONG_WIDTH, widthPlace);
            int place = source.spot;
            source.nextRuns(numbers, many, width);
            for (int t = 0; t < many && t < numbers.length; t++) {
                source.demand(numbers[t] < dictionary.count, WRONG_PLACE, place);
            }
            for (int t = 0; t < many && t < numbers.length && source.isSound(); t++) {
                fresh.pushCopy(dictionary, (int) numbers[t]);
            }
        }
    }
}
