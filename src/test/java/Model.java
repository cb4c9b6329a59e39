import java.io.ByteArrayOutputStream;
import java.math.BigInteger;
import java.util.ArrayList;
import java.util.Arrays;
import java.util.Collections;
import java.util.HashSet;
import java.util.List;
import java.util.Objects;
import java.util.stream.Collectors;

/**
 * The document once more, in another way than the program: values are objects (null: absent, Long, String of
 * characters 0 to 255), bits are texts of 0 and 1, numbers are BigIntegers, a fault is an exception.
 */
final class Model {
    static final int BAD = -1, NOT = -2, FULL = -3;
    final int[] kind = new int[4];
    final boolean[] optional = new boolean[4];
    final List<List<Object>> values = new ArrayList<>();
    String tape = "";
    int[] file = new int[0];
    final int[] latest = new int[4];

    Model() {
        for (int c = 0; c < 4; c++) {
            values.add(new ArrayList<>());
        }
    }

    private static boolean none(int c) {
        return c < 0 || c > 3;
    }

    int column(int c, int newKind, boolean newOptional) {
        if (none(c) || newKind < 0 || newKind > 3) {
            return BAD;
        }
        int had = values.get(c).size();
        values.get(c).clear();
        kind[c] = newKind;
        optional[c] = newOptional;
        return had;
    }

    private int more(int c, Object value) {
        if (values.get(c).size() == 200) {
            return FULL;
        }
        values.get(c).add(value);
        return values.get(c).size() - 1;
    }

    int add(int c, long v) {
        if (none(c)) {
            return BAD;
        }
        return kind[c] == 2 ? NOT : more(c, kind[c] == 0 ? (Object) (long) (int) v : kind[c] == 1 || v == 0 ? v : 1L);
    }

    int type(long w, int n) {
        if (n < 1 || n > 8) {
            return BAD;
        }
        if (tape.length() + n > 40) {
            return FULL;
        }
        for (int i = n; i > 0; i--) {
            tape += (char) (w >> (8 * i - 8) & 0xFF);
        }
        return tape.length();
    }

    int addText(int c) {
        if (none(c)) {
            return BAD;
        }
        int answer = kind[c] != 2 ? NOT : more(c, tape);
        if (answer >= 0) {
            tape = "";
        }
        return answer;
    }

    int addNone(int c) {
        return none(c) ? BAD : !optional[c] ? NOT : more(c, null);
    }

    int repeat(int c, int k, int n) {
        if (none(c) || k < 0 || k > values.get(c).size() || n < 1 || n > 200) {
            return BAD;
        }
        List<Object> all = new ArrayList<>();
        for (Object value : values.get(c).subList(0, k)) {
            all.addAll(Collections.nCopies(n, value));
        }
        if (all.size() > 200) {
            return FULL;
        }
        values.set(c, all);
        return all.size();
    }

    int told(int c, int what) {
        if (none(c) || what < 0 || what > 4) {
            return BAD;
        }
        List<Object> there = new ArrayList<>(values.get(c));
        there.removeIf(Objects::isNull);
        int count = values.get(c).size();
        int[] answers = {kind[c], optional[c] ? 1 : 0, count, count - there.size(), new HashSet<>(there).size()};
        return answers[what];
    }

    private boolean is(int c, int i) {
        return !none(c) && i >= 0 && i < values.get(c).size();
    }

    int has(int c, int i) {
        return !is(c, i) ? BAD : values.get(c).get(i) != null ? 1 : 0;
    }

    long value(int c, int i) {
        Object value = is(c, i) ? values.get(c).get(i) : null;
        return value == null ? 0 : value instanceof String ? ((String) value).length() : (Long) value;
    }

    int letter(int c, int i, int k) {
        Object value = is(c, i) ? values.get(c).get(i) : null;
        boolean there = value instanceof String && k >= 0 && k < ((String) value).length();
        return there ? ((String) value).charAt(k) : BAD;
    }

    int alike(int c, int d) {
        return none(c) || none(d) ? BAD : kind[c] == kind[d] && values.get(c).equals(values.get(d)) ? 1 : 0;
    }

    int size() {
        return file.length;
    }

    int byteAt(int i) {
        return i < 0 || i >= file.length ? BAD : file[i];
    }

    int poke(int i, int mask) {
        return i < 0 || i >= file.length ? BAD : (file[i] ^= mask & 255);
    }

    int cut(int n) {
        if (n < 0 || n > file.length) {
            return BAD;
        }
        int went = file.length - n;
        file = Arrays.copyOf(file, n);
        return went;
    }

    int put(long w, int n) {
        if (n < 1 || n > 8) {
            return BAD;
        }
        if (file.length + n > 12000) {
            return FULL;
        }
        int had = file.length;
        file = Arrays.copyOf(file, had + n);
        for (int i = 0; i < n; i++) {
            file[had + i] = (int) (w >> (8 * i) & 255);
        }
        return file.length;
    }

    // ---- written

    static final class Out extends ByteArrayOutputStream {
        Out var(BigInteger v) {
            BigInteger[] parts = v.divideAndRemainder(BigInteger.valueOf(128));
            write(parts[1].intValue() + (parts[0].signum() > 0 ? 128 : 0));
            return parts[0].signum() > 0 ? var(parts[0]) : this;
        }

        Out var(long v) {
            return var(BigInteger.valueOf(v));
        }

        Out zig(BigInteger v) {
            BigInteger two = v.shiftLeft(1);
            return var(v.signum() < 0 ? two.negate().subtract(BigInteger.ONE) : two);
        }

        Out zig(long v) {
            return zig(BigInteger.valueOf(v));
        }

        Out raw(long v, int n) {
            for (int i = 0; i < n; i++) {
                write((int) (v >>> (8 * i)));
            }
            return this;
        }

        Out all(byte[] bytes) {
            write(bytes, 0, bytes.length);
            return this;
        }

        Out bits(List<BigInteger> numbers, int slots, int width) {
            StringBuilder bits = new StringBuilder();
            for (int i = 0; i < slots; i++) {
                BigInteger number = i < numbers.size() ? numbers.get(i) : BigInteger.ZERO;
                for (int bit = 0; bit < width; bit++) {
                    bits.append(number.testBit(bit) ? 1 : 0);
                }
            }
            while (bits.length() % 8 != 0) {
                bits.append(0);
            }
            for (int i = 0; i < bits.length(); i += 8) {
                write(Integer.parseInt(new StringBuilder(bits.substring(i, i + 8)).reverse().toString(), 2));
            }
            return this;
        }

        Out runs(List<Integer> numbers, int width) {
            if (numbers.isEmpty()) {
                return this;
            }
            int n = numbers.size();
            if (eight(numbers)) {
                int k = 8;
                while (k < n && numbers.get(k).equals(numbers.get(0))) {
                    k++;
                }
                return var(2 * k).raw(numbers.get(0), (width + 7) / 8).runs(numbers.subList(k, n), width);
            }
            int groups = 1;
            while (8 * groups < n && !eight(numbers.subList(8 * groups, n))) {
                groups++;
            }
            int end = Math.min(n, 8 * groups);
            List<BigInteger> those = numbers.subList(0, end).stream().map(BigInteger::valueOf)
                .collect(Collectors.toList());
            return var(2 * groups + 1).bits(those, 8 * groups, width).runs(numbers.subList(end, n), width);
        }

        private static boolean eight(List<Integer> numbers) {
            return numbers.size() >= 8 && new HashSet<>(numbers.subList(0, 8)).size() == 1;
        }

        Out differences(List<Long> numbers, int bits) {
            int n = numbers.size();
            var(128).var(4).var(n).zig(n == 0 ? 0 : numbers.get(0));
            List<BigInteger> steps = new ArrayList<>();
            for (int i = 1; i < n; i++) {
                steps.add(round(BigInteger.valueOf(numbers.get(i)).subtract(BigInteger.valueOf(numbers.get(i - 1))), bits));
            }
            for (int from = 0; from < steps.size(); from += 128) {
                List<BigInteger> block = new ArrayList<>(steps.subList(from, Math.min(from + 128, steps.size())));
                BigInteger least = Collections.min(block);
                zig(least);
                block.replaceAll(step -> step.subtract(least));
                Out packed = new Out();
                for (int part = 0; part < 4; part++) {
                    int end = Math.min(32 * part + 32, block.size());
                    List<BigInteger> those = 32 * part < end ? block.subList(32 * part, end) : List.of();
                    int width = those.isEmpty() ? 0 : Collections.max(those).bitLength();
                    write(width);
                    packed.bits(those, 32, width);
                }
                all(packed.toByteArray());
            }
            return this;
        }
    }

    /** A number as one of so many bits with a sign. */
    static BigInteger round(BigInteger v, int bits) {
        BigInteger low = v.mod(BigInteger.ONE.shiftLeft(bits));
        return low.testBit(bits - 1) ? low.subtract(BigInteger.ONE.shiftLeft(bits)) : low;
    }

    private static Out plain(List<Object> there, int kind) {
        Out out = new Out();
        if (kind == 3) {
            List<BigInteger> bits = new ArrayList<>();
            for (Object value : there) {
                bits.add(BigInteger.valueOf((Long) value));
            }
            return out.bits(bits, bits.size(), 1);
        }
        for (Object value : there) {
            if (kind == 2) {
                out.raw(((String) value).length(), 4).all(letters((String) value));
            } else {
                out.raw((Long) value, kind == 0 ? 4 : 8);
            }
        }
        return out;
    }

    private static byte[] letters(String text) {
        return text.getBytes(java.nio.charset.StandardCharsets.ISO_8859_1);
    }

    private static Out page(boolean dictionary, int many, int code, Out body) {
        Out out = new Out();
        out.raw(0x15, 1).zig(dictionary ? 2 : 0).raw(0x15, 1).zig(body.size()).raw(0x15, 1).zig(body.size());
        out.raw(dictionary ? 0x4C : 0x2C, 1).raw(0x15, 1).zig(many).raw(0x15, 1).zig(code).raw(0, 2);
        return out.all(body.toByteArray());
    }

    private Out data(int c, List<Object> those, int way, List<Object> dictionary) {
        Out body = new Out();
        if (optional[c]) {
            List<Integer> levels = those.stream().map(value -> value == null ? 0 : 1).collect(Collectors.toList());
            byte[] bytes = new Out().runs(levels, 1).toByteArray();
            body.raw(bytes.length, 4).all(bytes);
        }
        List<Object> there = those.stream().filter(Objects::nonNull).collect(Collectors.toList());
        if (way == 0) {
            return page(false, those.size(), 0, body.all(plain(there, kind[c]).toByteArray()));
        }
        if (way == 1) {
            int width = dictionary.isEmpty() ? 0 : BigInteger.valueOf(dictionary.size() - 1).bitLength();
            body.raw(width, 1).runs(there.stream().map(dictionary::indexOf).collect(Collectors.toList()), width);
            return page(false, those.size(), 8, body);
        }
        if (kind[c] == 2) {
            body.differences(there.stream().map(v -> (long) ((String) v).length()).collect(Collectors.toList()), 32);
            there.forEach(v -> body.all(letters((String) v)));
            return page(false, those.size(), 6, body);
        }
        List<Long> numbers = there.stream().map(v -> (Long) v).collect(Collectors.toList());
        if (kind[c] == 3) {
            byte[] bytes = new Out().runs(numbers.stream().map(Long::intValue).collect(Collectors.toList()), 1).toByteArray();
            return page(false, those.size(), 3, body.raw(bytes.length, 4).all(bytes));
        }
        return page(false, those.size(), 5, body.differences(numbers, kind[c] == 0 ? 32 : 64));
    }

    int write(int c, int way, int q, boolean behind) {
        if (none(c) || way < 0 || way > 2 || way == 1 && kind[c] == 3 || q < 1 || q > 200) {
            return BAD;
        }
        Out out = new Out();
        if (behind) {
            for (int b : file) {
                out.write(b);
            }
        }
        List<Object> all = values.get(c);
        List<Object> dictionary = all.stream().filter(Objects::nonNull).distinct().collect(Collectors.toList());
        if (way == 1 && !all.isEmpty()) {
            out.all(page(true, dictionary.size(), 0, plain(dictionary, kind[c])).toByteArray());
        }
        for (int from = 0; from < all.size(); from += q) {
            out.all(data(c, all.subList(from, Math.min(from + q, all.size())), way, dictionary).toByteArray());
        }
        if (out.size() > 12000) {
            return FULL;
        }
        byte[] bytes = out.toByteArray();
        file = new int[bytes.length];
        for (int i = 0; i < bytes.length; i++) {
            file[i] = bytes[i] & 255;
        }
        return file.length;
    }

    // ---- read

    static final class Fault extends RuntimeException {
        private static final long serialVersionUID = 1L;
        final int number;
        final int place;

        Fault(int number, int place) {
            super(null, null, false, false);
            this.number = number;
            this.place = place;
        }
    }

    /** Bytes of the file from 'at' up to 'end'. */
    final class In {
        int at;
        final int end;

        In(int at, int end) {
            this.at = at;
            this.end = end;
        }

        int one() {
            if (at == end) {
                throw new Fault(1, at);
            }
            return file[at++];
        }

        BigInteger var() {
            BigInteger v = BigInteger.ZERO;
            int i = 0;
            int b;
            do {
                b = one();
                if (i == 9 && b > 1) {
                    throw new Fault(2, at - 1);
                }
                v = v.add(BigInteger.valueOf(b % 128).shiftLeft(7 * i++));
            } while (b > 127);
            return v;
        }

        BigInteger zig() {
            BigInteger z = var();
            return z.testBit(0) ? z.add(BigInteger.ONE).shiftRight(1).negate() : z.shiftRight(1);
        }

        BigInteger raw(int n) {
            BigInteger v = BigInteger.ZERO;
            for (int i = 0; i < n; i++) {
                v = v.add(BigInteger.valueOf(one()).shiftLeft(8 * i));
            }
            return v;
        }

        List<BigInteger> bits(int slots, int width) {
            BigInteger all = raw((slots * width + 7) / 8);
            List<BigInteger> numbers = new ArrayList<>();
            for (int i = 0; i < slots; i++) {
                numbers.add(all.shiftRight(i * width).mod(BigInteger.ONE.shiftLeft(width)));
            }
            return numbers;
        }

        List<BigInteger> runs(int n, int width) {
            List<BigInteger> numbers = new ArrayList<>();
            while (numbers.size() < n) {
                int place = at;
                BigInteger h = var();
                BigInteger k = h.shiftRight(1);
                BigInteger left = BigInteger.valueOf(n - numbers.size());
                boolean groups = h.testBit(0);
                boolean beyond = groups ? k.shiftLeft(3).subtract(left).compareTo(BigInteger.valueOf(8)) >= 0
                    : k.compareTo(left) > 0;
                if (k.signum() == 0 || beyond) {
                    throw new Fault(3, place);
                }
                if (groups) {
                    numbers.addAll(bits(8 * k.intValue(), width));
                } else {
                    place = at;
                    BigInteger number = raw((width + 7) / 8);
                    if (number.bitLength() > width) {
                        throw new Fault(4, place);
                    }
                    numbers.addAll(Collections.nCopies(k.intValue(), number));
                }
            }
            return numbers.subList(0, n);
        }

        List<Object> differences(int n, int bits) {
            int place = at;
            for (int due : new int[] {128, 4, n}) {
                if (!var().equals(BigInteger.valueOf(due))) {
                    throw new Fault(5, place);
                }
            }
            List<Object> numbers = new ArrayList<>();
            BigInteger last = round(zig(), bits);
            if (n > 0) {
                numbers.add(last.longValueExact());
            }
            while (numbers.size() < n) {
                BigInteger least = round(zig(), bits);
                int left = n - numbers.size();
                int[] widths = new int[4];
                for (int part = 0; part < 4; part++) {
                    widths[part] = one();
                    if (widths[part] > bits || widths[part] > 0 && left <= 32 * part) {
                        throw new Fault(6, at - 1);
                    }
                }
                for (int part = 0; part < 4 && left > 32 * part; part++) {
                    for (BigInteger step : bits(32, widths[part])) {
                        if (numbers.size() < n) {
                            last = round(last.add(least).add(step), bits);
                            numbers.add(last.longValueExact());
                        }
                    }
                }
            }
            return numbers;
        }

        /** A length of four bytes, then so many bytes as an In of their own; this one goes on behind them. */
        In part(int most) {
            int place = at;
            int length = raw(4).intValue();
            if (length < 0 || length > end - at || length > most) {
                throw new Fault(10, place);
            }
            at += length;
            return new In(at - length, at);
        }

        String rest() {
            StringBuilder text = new StringBuilder();
            while (at < end) {
                text.append((char) one());
            }
            return text.toString();
        }

        void over() {
            if (at < end) {
                throw new Fault(13, at);
            }
        }

        List<BigInteger> ownRuns(int n) {
            In own = part(Integer.MAX_VALUE);
            List<BigInteger> bits = own.runs(n, 1);
            own.over();
            return bits;
        }

        List<Object> plain(int n, int kind) {
            List<Object> those = new ArrayList<>();
            if (kind == 3) {
                bits(n, 1).forEach(bit -> those.add(bit.longValueExact()));
                return those;
            }
            for (int i = 0; i < n; i++) {
                those.add(kind == 2 ? part(40).rest()
                    : (Object) round(raw(kind == 0 ? 4 : 8), kind == 0 ? 32 : 64).longValueExact());
            }
            return those;
        }

        List<Object> texts(int n) {
            List<Object> lengths = differences(n, 32);
            long all = 0;
            for (Object length : lengths) {
                all += (Long) length;
            }
            if (lengths.stream().anyMatch(v -> (Long) v < 0 || (Long) v > 40) || all > end - at) {
                throw new Fault(10, at);
            }
            lengths.replaceAll(length -> new In(at, at += (int) (long) (Long) length).rest());
            return lengths;
        }

        List<Object> places(int n, List<Object> dictionary) {
            int width = one();
            if (width > 32) {
                throw new Fault(11, at - 1);
            }
            int place = at;
            List<Object> those = new ArrayList<>();
            for (BigInteger number : runs(n, width)) {
                if (number.compareTo(BigInteger.valueOf(dictionary.size())) >= 0) {
                    throw new Fault(12, place);
                }
                those.add(dictionary.get(number.intValue()));
            }
            return those;
        }

        void due(int b) {
            if (one() != b) {
                throw new Fault(7, at - 1);
            }
        }
    }

    private static boolean within(BigInteger v, int most) {
        return v.signum() >= 0 && v.compareTo(BigInteger.valueOf(most)) <= 0;
    }

    private List<Object> dictionary;

    private int readPage(int start, int kindNow, boolean optionalNow, List<Object> got) {
        In in = new In(start, file.length);
        in.due(0x15);
        int place = in.at;
        BigInteger what = in.zig();
        boolean isDictionary = what.equals(BigInteger.TWO);
        if (what.signum() != 0 && (!isDictionary || kindNow == 3)) {
            throw new Fault(8, place);
        }
        if (isDictionary && start > 0) {
            throw new Fault(9, start);
        }
        in.due(0x15);
        place = in.at;
        BigInteger bytes = in.zig();
        if (!within(bytes, file.length - in.at)) {
            throw new Fault(8, place);
        }
        in.due(0x15);
        place = in.at;
        if (!in.zig().equals(bytes)) {
            throw new Fault(8, place);
        }
        in.due(isDictionary ? 0x4C : 0x2C);
        in.due(0x15);
        place = in.at;
        BigInteger many = in.zig();
        if (!within(many, isDictionary ? 200 : 200 - got.size())) {
            throw new Fault(8, place);
        }
        in.due(0x15);
        place = in.at;
        BigInteger code = in.zig();
        String codes = isDictionary ? " 0 " : new String[] {" 0 5 ", " 0 5 ", " 0 6 ", " 0 3 "}[kindNow]
            + (dictionary != null ? " 8 " : "");
        if (!codes.contains(" " + code + " ")) {
            throw new Fault(8, place);
        }
        in.due(0);
        in.due(0);
        if (in.at + bytes.intValue() > file.length) {
            throw new Fault(1, file.length);
        }
        In body = new In(in.at, in.at + bytes.intValue());
        if (isDictionary) {
            dictionary = body.plain(many.intValue(), kindNow);
            latest[3] = dictionary.size();
        } else {
            got.addAll(readData(body, many.intValue(), code.intValue(), kindNow, optionalNow));
        }
        body.over();
        return body.end;
    }

    private List<Object> readData(In body, int m, int code, int kindNow, boolean optionalNow) {
        List<BigInteger> levels = optionalNow ? body.ownRuns(m) : Collections.nCopies(m, BigInteger.ONE);
        int p = (int) levels.stream().filter(level -> level.signum() > 0).count();
        List<Object> there = new ArrayList<>();
        switch (code) {
            case 0:
                there.addAll(body.plain(p, kindNow));
                break;
            case 5:
                there.addAll(body.differences(p, kindNow == 0 ? 32 : 64));
                break;
            case 6:
                there.addAll(body.texts(p));
                break;
            case 8:
                there.addAll(body.places(p, dictionary));
                break;
            default:
                body.ownRuns(p).forEach(bit -> there.add(bit.longValueExact()));
                break;
        }
        List<Object> those = new ArrayList<>();
        for (BigInteger level : levels) {
            those.add(level.signum() > 0 ? there.remove(0) : null);
        }
        return those;
    }

    int read(int c) {
        if (none(c)) {
            return BAD;
        }
        Arrays.fill(latest, 0);
        dictionary = null;
        List<Object> got = new ArrayList<>();
        try {
            for (int at = 0; at < file.length; latest[2]++) {
                at = readPage(at, kind[c], optional[c], got);
            }
        } catch (Fault fault) {
            latest[0] = fault.number;
            latest[1] = fault.place;
            return -10 - fault.number;
        }
        values.set(c, got);
        return got.size();
    }

    int fault(int what) {
        return what < 0 || what > 3 ? BAD : latest[what];
    }
}
