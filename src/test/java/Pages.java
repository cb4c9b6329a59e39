import java.util.ArrayList;
import java.util.List;

/**
 * One object of ColumnPages. The document tells of its first 512 calls alone: ahead of the next one a new object takes
 * its place, on which the calls that may have changed something are made again.
 */
final class Pages {
    static final int MOST_CALLS = 512;

    /** A call on the object. */
    interface Call {
        long on(ColumnPages x);
    }

    private ColumnPages x = new ColumnPages();
    private int calls = 0;
    private final List<Call> changes = new ArrayList<>();
    private final List<Long> answers = new ArrayList<>();
    private String last = "new ColumnPages()";

    /** The latest call, as text. */
    String last() {
        return last;
    }

    private ColumnPages next() {
        if (calls == MOST_CALLS) {
            renew();
        }
        calls++;
        return x;
    }

    private void renew() {
        if (changes.size() >= MOST_CALLS) {
            throw new IllegalStateException("a test makes more than 512 calls that change something");
        }
        x = new ColumnPages();
        calls = changes.size();
        for (int i = 0; i < changes.size(); i++) {
            if (changes.get(i).on(x) != answers.get(i)) {
                throw new IllegalStateException("the same calls have other answers, ahead of " + last);
            }
        }
    }

    private long change(String text, Call call) {
        last = text;
        long answer = call.on(next());
        changes.add(call);
        answers.add(answer);
        return answer;
    }

    // ---- calls that may change something

    int column(int c, int kind, boolean optional) {
        return (int) change("column(" + c + ", " + kind + ", " + optional + ")", x -> x.column(c, kind, optional));
    }

    int add(int c, long v) {
        return (int) change("add(" + c + ", " + v + ")", x -> x.add(c, v));
    }

    int type(long w, int n) {
        return (int) change("type(" + w + ", " + n + ")", x -> x.type(w, n));
    }

    int addText(int c) {
        return (int) change("addText(" + c + ")", x -> x.addText(c));
    }

    int addNone(int c) {
        return (int) change("addNone(" + c + ")", x -> x.addNone(c));
    }

    int repeat(int c, int k, int n) {
        return (int) change("repeat(" + c + ", " + k + ", " + n + ")", x -> x.repeat(c, k, n));
    }

    int write(int c, int way, int q, boolean behind) {
        return (int) change("write(" + c + ", " + way + ", " + q + ", " + behind + ")",
            x -> x.write(c, way, q, behind));
    }

    int read(int c) {
        return (int) change("read(" + c + ")", x -> x.read(c));
    }

    int poke(int i, int mask) {
        return (int) change("poke(" + i + ", " + mask + ")", x -> x.poke(i, mask));
    }

    int cut(int n) {
        return (int) change("cut(" + n + ")", x -> x.cut(n));
    }

    int put(long w, int n) {
        return (int) change("put(" + w + ", " + n + ")", x -> x.put(w, n));
    }

    // ---- calls that only ask

    int told(int c, int what) {
        last = "told(" + c + ", " + what + ")";
        return next().told(c, what);
    }

    int has(int c, int i) {
        last = "has(" + c + ", " + i + ")";
        return next().has(c, i);
    }

    long value(int c, int i) {
        last = "value(" + c + ", " + i + ")";
        return next().value(c, i);
    }

    int letter(int c, int i, int k) {
        last = "letter(" + c + ", " + i + ", " + k + ")";
        return next().letter(c, i, k);
    }

    int alike(int c, int d) {
        last = "alike(" + c + ", " + d + ")";
        return next().alike(c, d);
    }

    int fault(int what) {
        last = "fault(" + what + ")";
        return next().fault(what);
    }

    int size() {
        last = "size()";
        return next().size();
    }

    int byteAt(int i) {
        last = "byteAt(" + i + ")";
        return next().byteAt(i);
    }

    // ---- what tests say often

    /** A text more, typed eight letters a call; null: an absent value. */
    void text(int c, String letters) {
        if (letters == null) {
            addNone(c);
            return;
        }
        for (int from = 0; from < letters.length(); from += 8) {
            int to = Math.min(from + 8, letters.length());
            long w = 0;
            for (int i = from; i < to; i++) {
                w = w << 8 | letters.charAt(i);
            }
            type(w, to - from);
        }
        addText(c);
    }

    /** A value of a text column; null: it is absent. */
    String textAt(int c, int i) {
        if (has(c, i) != 1) {
            return null;
        }
        StringBuilder text = new StringBuilder();
        long length = value(c, i);
        for (int k = 0; k < length && k < 99; k++) {
            text.append((char) letter(c, i, k));
        }
        return text.toString();
    }

    /** The bytes of the file from a place on as text: two signs of base 16 for each, a blank between. */
    String hex(int from, int to) {
        StringBuilder text = new StringBuilder();
        for (int i = from; i < to; i++) {
            text.append(text.length() > 0 ? " " : "").append(Hex.byteOf(byteAt(i)));
        }
        return text.toString();
    }

    String hex() {
        return hex(0, size());
    }

    /** The file becomes these bytes, eight a call. */
    void file(String hex) {
        cut(0);
        int[] bytes = Hex.bytes(hex);
        for (int from = 0; from < bytes.length; from += 8) {
            int to = Math.min(from + 8, bytes.length);
            long w = 0;
            for (int i = from; i < to; i++) {
                w |= (long) bytes[i] << 8 * (i - from);
            }
            put(w, to - from);
        }
    }
}
