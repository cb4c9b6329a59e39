import java.math.BigInteger;
import java.util.ArrayList;
import java.util.Arrays;
import java.util.List;
import java.util.Random;

/** Runs of at most 512 calls, answered by the program and by the model; the seeds are fixed. */
public final class ModelTest {
    private static final Check CHECK = new Check();
    private static final int MOST_CALLS = 512;
    private static final long[] NUMBERS = {0, 1, -1, 2, 5, 127, 128, 255, 256, 65535, Integer.MAX_VALUE,
        Integer.MIN_VALUE, 1L << 32, 0x180000000L, Long.MAX_VALUE, Long.MIN_VALUE, Long.MIN_VALUE + 1};
    private static final int[] STRANGE = {Integer.MIN_VALUE, Integer.MAX_VALUE, -1, 4, 5, 9, 40, 41, 199, 200, 201, 11999, 12000,
        12001, 1 << 30, -1 << 30};
    private static final int[] FAULTS = new int[14];

    private final Random random;
    private final int run;
    private final ColumnPages x = new ColumnPages();
    private final Model model = new Model();
    private int calls = 0;

    /** The run has made all the calls that the document tells of. */
    private static final class RunEnds extends RuntimeException {
        private static final long serialVersionUID = 1;
    }

    private ModelTest(int run) {
        this.run = run;
        random = new Random(run);
    }

    public static void main(String[] args) {
        int runs = args.length > 0 ? Integer.parseInt(args[0]) : 16000;
        for (int run = 0; run < runs; run++) {
            ModelTest test = new ModelTest(run);
            try {
                test.play();
            } catch (RunEnds e) {
                continue;
            } catch (RuntimeException e) {
                e.printStackTrace(System.out);
                CHECK.due("run " + run + " throws", 1, 0);
            }
        }
        for (int fault = 0; fault < 14; fault++) {
            CHECK.due("fault " + fault + " was met often", FAULTS[fault] > 20 || runs < 16000 ? 1 : 0, 1);
        }
        System.out.println("ModelTest: reads with fault 0 to 13: " + Arrays.toString(FAULTS));
        CHECK.end("ModelTest");
    }

    private void play() {
        switch (run % 4) {
            case 0:
                anyCalls();
                break;
            case 1:
                pagesAndChanges();
                break;
            default:
                builtPages();
                break;
        }
    }

    /** The answer of a call that is one too many does not count. */
    private void due(String call, long got, long want) {
        calls++;
        if (calls > MOST_CALLS) {
            throw new RunEnds();
        }
        CHECK.due(got == want ? "" : "run " + run + " call " + calls + ": " + call, got, want);
    }

    private int below(int n) {
        return random.nextInt(n);
    }

    private boolean seldom(int n) {
        return random.nextInt(n) == 0;
    }

    /** A number, or seldom one that no call, or hardly one, takes. */
    private int orStrange(int n) {
        return seldom(40) ? STRANGE[below(STRANGE.length)] : n;
    }

    private int place() {
        return orStrange(below(4));
    }

    private long number() {
        switch (below(5)) {
            case 0:
                return NUMBERS[below(NUMBERS.length)];
            case 1:
                return random.nextLong();
            case 2:
                return random.nextInt();
            default:
                return below(6) - 2;
        }
    }

    // ---- each call on both

    private void column(int c, int kind, boolean optional) {
        due("column(" + c + ", " + kind + ", " + optional + ")", x.column(c, kind, optional),
            model.column(c, kind, optional));
    }

    private void add(int c, long v) {
        due("add(" + c + ", " + v + ")", x.add(c, v), model.add(c, v));
    }

    private void addNone(int c) {
        due("addNone(" + c + ")", x.addNone(c), model.addNone(c));
    }

    private void text(int c) {
        for (int i = below(3); i > 0; i--) {
            long w = seldom(2) ? random.nextLong() : 0x6161;
            int n = orStrange(1 + below(8));
            due("type(" + w + ", " + n + ")", x.type(w, n), model.type(w, n));
        }
        due("addText(" + c + ")", x.addText(c), model.addText(c));
    }

    private void repeat(int c, int k, int n) {
        due("repeat(" + c + ", " + k + ", " + n + ")", x.repeat(c, k, n), model.repeat(c, k, n));
    }

    private void put(long w, int n) {
        due("put(" + w + ", " + n + ")", x.put(w, n), model.put(w, n));
    }

    private void poke(int i, int mask) {
        due("poke(" + i + ", " + mask + ")", x.poke(i, mask), model.poke(i, mask));
    }

    private void cut(int n) {
        due("cut(" + n + ")", x.cut(n), model.cut(n));
    }

    private void alike(int c, int d) {
        due("alike(" + c + ", " + d + ")", x.alike(c, d), model.alike(c, d));
    }

    private void told(int c, int what) {
        due("told(" + c + ", " + what + ")", x.told(c, what), model.told(c, what));
    }

    private void write(int c, int way, int q, boolean behind) {
        due("write(" + c + ", " + way + ", " + q + ", " + behind + ")", x.write(c, way, q, behind),
            model.write(c, way, q, behind));
        sameBytes(30);
    }

    private void read(int c) {
        due("read(" + c + ")", x.read(c), model.read(c));
        for (int what = 0; what < 4; what++) {
            due("fault(" + what + ")", x.fault(what), model.fault(what));
        }
        FAULTS[model.fault(0)]++;
        if (model.fault(0) == 0 || seldom(9)) {
            sameColumn(c, 8);
        }
    }

    /** Some bytes of the file, most often all of a short one. */
    private void sameBytes(int many) {
        due("size", x.size(), model.size());
        int size = model.size();
        int from = size <= many || seldom(2) ? 0 : below(size - many + 1);
        for (int i = from; i < from + many && i < size; i++) {
            due("byteAt(" + i + ")", x.byteAt(i), model.byteAt(i));
        }
        int i = orStrange(size);
        due("byteAt(" + i + ")", x.byteAt(i), model.byteAt(i));
    }

    /** What is told of a column, and some of its values. */
    private void sameColumn(int c, int many) {
        for (int what = 0; what < 5; what++) {
            told(c, what);
        }
        int count = Math.max(0, model.told(c, 2));
        for (int t = 0; t < many; t++) {
            int i = orStrange(count <= many ? t : below(count));
            due("has(" + c + ", " + i + ")", x.has(c, i), model.has(c, i));
            due("value(" + c + ", " + i + ")", x.value(c, i), model.value(c, i));
            int k = orStrange(below(1 + (int) Math.max(0, Math.min(40, model.value(c, i)))));
            due("letter(" + c + ", " + i + ", " + k + ")", x.letter(c, i, k), model.letter(c, i, k));
        }
        alike(c, place());
    }

    // ---- kinds of runs

    private void fillColumn(int c, int most) {
        int many = seldom(3) ? below(most) : below(20);
        boolean near = seldom(2);
        long last = number();
        for (int i = 0; i < many; i++) {
            if (seldom(seldom(2) ? 2 : 9)) {
                addNone(c);
            } else if (model.told(c, 0) == 2) {
                text(c);
            } else {
                last = seldom(3) ? last : near ? last + below(9) - 4 : number();
                add(c, last);
            }
        }
        if (seldom(3)) {
            int k = below(Math.max(0, model.told(c, 2)) + 1);
            repeat(c, k, 1 + below(k == 0 ? 200 : Math.max(1, 220 / k)));
        }
    }

    private void anyCalls() {
        for (int i = 0; i < MOST_CALLS; i++) {
            int c = place();
            switch (below(13)) {
                case 0:
                    column(c, orStrange(below(4)), seldom(2));
                    break;
                case 1:
                    add(c, number());
                    break;
                case 2:
                    text(c);
                    break;
                case 3:
                    addNone(c);
                    break;
                case 4:
                    repeat(c, orStrange(below(12)), orStrange(below(9)));
                    break;
                case 5:
                    write(c, orStrange(below(3)), orStrange(seldom(2) ? below(12) : below(202)), seldom(2));
                    break;
                case 6:
                    read(c);
                    break;
                case 7:
                    put(number(), orStrange(1 + below(8)));
                    break;
                case 8:
                    poke(orStrange(below(60)), seldom(2) ? 1 << below(9) : random.nextInt());
                    break;
                case 9:
                    cut(orStrange(seldom(2) ? model.size() - below(4) : below(200)));
                    break;
                case 10:
                    alike(c, place());
                    break;
                case 11:
                    sameColumn(c, 4);
                    break;
                default:
                    fillColumn(c, 40);
                    break;
            }
        }
    }

    /** A column is written, its file is changed in a place or two, and read in many ways. */
    private void pagesAndChanges() {
        column(0, below(4), seldom(2));
        fillColumn(0, seldom(2) ? 200 : 80);
        column(1, model.told(0, 0), model.told(0, 1) == 1);
        for (int round = 0; round < MOST_CALLS; round++) {
            write(0, below(3), seldom(3) ? 200 : 1 + below(200), seldom(9));
            read(1);
            alike(0, 1);
            for (int i = 0; i < 12 && model.size() > 0; i++) {
                int at = below(seldom(2) ? model.size() : Math.min(model.size(), 60));
                int mask = seldom(2) ? 1 << below(8) : 1 + below(255);
                poke(at, mask);
                read(1);
                poke(at, mask);
            }
            cut(model.size() - Math.min(model.size(), below(9)));
            read(1);
            column(2, below(4), seldom(2));
            read(2);
        }
    }

    /** Pages that are nearly right, built from parts that write() does not make. */
    private void builtPages() {
        int kind = below(4);
        boolean optional = seldom(2);
        column(0, kind, optional);
        boolean dictionary = kind != 3 && seldom(2);
        int unlike = below(6);
        if (dictionary) {
            headed(2, unlike, 0, new Body().plain(unlike, kind));
        }
        for (int page = below(4); page >= 0; page--) {
            int m = seldom(3) ? below(140) : below(12);
            Body body = new Body();
            int p = m;
            if (optional) {
                p = body.levels(m);
            }
            int[] codes = {0, kind == 2 ? 6 : kind == 3 ? 3 : 5, kind == 3 || !dictionary && !seldom(20) ? 0 : 8};
            int code = codes[below(3)];
            body.coded(code, p, kind, unlike);
            headed(seldom(60) ? 2 : 0, m, code, body);
        }
        if (seldom(4)) {
            poke(below(model.size()), 1 << below(8));
        }
        if (seldom(9)) {
            cut(below(model.size()));
        }
        read(0);
        if (model.fault(0) == 0 && seldom(2)) {
            write(0, below(3), 1 + below(200), true);
            read(0);
        }
        for (int i = 0; i < MOST_CALLS; i++) {
            int at = below(Math.max(1, model.size()));
            int mask = 1 << below(8);
            poke(at, mask);
            read(0);
            poke(at, mask);
        }
    }

    private void headed(int what, int many, int code, Body body) {
        int length = body.bytes.size();
        Body page = new Body();
        page.raw(0x15, 1).zig(what).raw(0x15, 1).zig(length);
        page.raw(0x15, 1).zig(seldom(200) ? length + 1 : length);
        page.raw(what == 2 ? 0x4C : 0x2C, 1);
        page.raw(0x15, 1).zig(seldom(200) ? number() : many);
        page.raw(0x15, 1).zig(seldom(200) ? number() : code);
        page.raw(0, 2);
        page.bytes.addAll(body.bytes);
        for (int from = 0; from < page.bytes.size(); from += 8) {
            int to = Math.min(from + 8, page.bytes.size());
            long w = 0;
            for (int i = from; i < to; i++) {
                w |= (long) page.bytes.get(i) << 8 * (i - from);
            }
            put(w, to - from);
        }
    }

    /** The bytes of a BODY, most often right. */
    private final class Body {
        final List<Integer> bytes = new ArrayList<>();

        Body raw(long v, int n) {
            for (int i = 0; i < n; i++) {
                bytes.add((int) (v >>> 8 * i & 255));
            }
            return this;
        }

        Body var(long v) {
            long rest = v;
            while ((rest & ~127L) != 0) {
                raw(rest & 127 | 128, 1);
                rest >>>= 7;
            }
            if (seldom(25)) {
                raw(rest | 128, 1);
                rest = 0;
            }
            return raw(rest, 1);
        }

        Body zig(long v) {
            return var(v << 1 ^ v >> 63);
        }

        Body noise(int n) {
            for (int i = 0; i < n; i++) {
                raw(random.nextInt(), 1);
            }
            return this;
        }

        Body plain(int n, int kind) {
            if (kind == 3) {
                return noise((n + 7) / 8);
            }
            for (int i = 0; i < n; i++) {
                if (kind == 2) {
                    int length = seldom(150) ? below(60) - 9 : below(4) * below(13);
                    raw(length, 4).noise(Math.max(0, length));
                } else {
                    raw(number(), kind == 0 ? 4 : 8);
                }
            }
            return seldom(60) ? noise(1) : this;
        }

        /** Runs of any cut; answers how many numbers are not 0, for numbers of one bit. */
        int runs(int n, int width, long most) {
            int left = n;
            int ones = 0;
            while (left > 0) {
                if (seldom(2)) {
                    int many = seldom(150) ? left + below(3) - 1 : 1 + below(left);
                    long number = seldom(150) ? number() : Math.floorMod(random.nextLong(), most);
                    var(2L * many).raw(number, (width + 7) / 8);
                    ones += number != 0 ? many : 0;
                    left -= Math.max(many, 1);
                } else {
                    int groups = seldom(150) ? below(3) + (left + 7) / 8 : 1 + below((left + 7) / 8);
                    var(2L * groups + 1);
                    ones += group(groups, left, width, most);
                    left -= 8 * Math.max(groups, 1);
                }
            }
            return ones;
        }

        private int group(int groups, int left, int width, long most) {
            BigInteger all = BigInteger.ZERO;
            int ones = 0;
            for (int i = 0; i < 8 * groups; i++) {
                long number = i >= left && width > 0 ? random.nextLong() >>> 64 - width
                    : Math.floorMod(random.nextLong(), most);
                ones += i < left && number != 0 ? 1 : 0;
                all = all.add(BigInteger.valueOf(number).shiftLeft(i * width));
            }
            for (int i = 0; i < groups * width; i++) {
                raw(all.shiftRight(8 * i).longValue(), 1);
            }
            return ones;
        }

        int levels(int m) {
            Body own = new Body();
            int ones = own.runs(m, 1, 2);
            own(own);
            return ones;
        }

        private void own(Body own) {
            if (seldom(100)) {
                own.noise(1);
            }
            raw(seldom(100) ? own.bytes.size() + below(7) - 3 : own.bytes.size(), 4);
            bytes.addAll(own.bytes);
        }

        void differences(int n, boolean ints, boolean small) {
            var(seldom(100) ? 127 : 128).var(seldom(100) ? 5 : 4).var(seldom(100) ? n + 1 : n);
            zig(small ? below(30) : number());
            for (int from = 1; from < n; from += 128) {
                zig(small ? 0 : number());
                int[] widths = new int[4];
                for (int part = 0; part < 4; part++) {
                    boolean there = from + 32 * part < n;
                    widths[part] = seldom(150) ? below(70) : !there || small ? 0 : below(ints ? 33 : 65);
                    raw(widths[part], 1);
                }
                for (int part = 0; part < 4; part++) {
                    noise(4 * widths[part]);
                }
            }
        }

        void coded(int code, int p, int kind, int unlike) {
            if (code == 0) {
                plain(p, kind);
            } else if (code == 5) {
                differences(p, kind == 0, false);
            } else if (code == 6) {
                boolean small = !seldom(12);
                int at = bytes.size();
                differences(p, true, small);
                int first = firstLength(at);
                noise(seldom(20) ? below(50) : Math.max(0, p * first));
            } else if (code == 3) {
                Body own = new Body();
                own.runs(p, 1, 2);
                own(own);
            } else {
                int width = seldom(60) ? below(40) : Math.max(3, below(33));
                raw(width, 1);
                runs(p, width, seldom(60) ? unlike + 2 : Math.max(1, unlike));
            }
            if (seldom(60)) {
                noise(1);
            }
        }

        /** The length that small differences tell for all: the ZIG behind the third VAR. */
        private int firstLength(int at) {
            int i = at;
            for (int var = 0; var < 3; var++) {
                while (bytes.get(i) > 127) {
                    i++;
                }
                i++;
            }
            return (bytes.get(i) & 127) / 2;
        }
    }
}
