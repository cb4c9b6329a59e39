/** Promises 16 to 20: the file, byte by byte. */
public final class FileTest {
    private static final int BAD = -1, FULL = -3;

    public static void main(String[] args) {
        Check check = new Check();
        ColumnPages x = new ColumnPages();
        check.due("byteAt of none", x.byteAt(0), BAD);
        check.due("poke of none", x.poke(0, 1), BAD);
        check.due("cut of none", x.cut(0), 0);
        check.due("cut of none", x.cut(1), BAD);
        check.due("put 0", x.put(1, 0), BAD);
        check.due("put -1", x.put(1, -1), BAD);
        check.due("put 9", x.put(1, 9), BAD);
        check.due("put 8", x.put(0x8122334455667788L, 8), 8);
        check.due("put 1", x.put(-2, 1), 9);
        check.due("put 3", x.put(0x99010203L, 3), 12);
        check.due("bytes", Check.hex(x), "88 77 66 55 44 33 22 81 fe 03 02 01");
        check.due("size", x.size(), 12);
        check.due("byteAt -1", x.byteAt(-1), BAD);
        check.due("byteAt 12", x.byteAt(12), BAD);
        check.due("byteAt 11", x.byteAt(11), 1);
        check.due("byteAt 8", x.byteAt(8), 254);
        check.due("poke -1", x.poke(-1, 1), BAD);
        check.due("poke 12", x.poke(12, 1), BAD);
        check.due("poke", x.poke(8, 0x181), 127);
        check.due("poke", x.poke(0, -1), 0x77);
        check.due("poke by 0", x.poke(1, 0x100), 0x77);
        check.due("bytes", Check.hex(x), "77 77 66 55 44 33 22 81 7f 03 02 01");
        check.due("cut -1", x.cut(-1), BAD);
        check.due("cut 13", x.cut(13), BAD);
        check.due("cut 12", x.cut(12), 0);
        check.due("cut 9", x.cut(9), 3);
        check.due("size", x.size(), 9);
        check.due("byteAt 9", x.byteAt(9), BAD);
        check.due("put again", x.put(5, 1), 10);
        check.due("byteAt 9", x.byteAt(9), 5);
        check.due("cut 0", x.cut(0), 10);
        check.due("size", x.size(), 0);
        // 512 calls of put() reach no 12000 bytes: pages do
        x.column(0, 2, false);
        for (int i = 0; i < 5; i++) {
            x.type(0x4142434445464748L, 8);
        }
        x.addText(0);
        x.repeat(0, 1, 200);
        check.due("write", x.write(0, 0, 200, false), 8818);
        x.repeat(0, 71, 1);
        check.due("write", x.write(0, 0, 200, true), 11958);
        for (int i = 1; i <= 5; i++) {
            check.due("put", x.put(0, 8), 11958 + 8 * i);
        }
        check.due("put 3 on 11998", x.put(0, 3), FULL);
        check.due("put 2 on 11998", x.put(0, 2), 12000);
        check.due("put on 12000", x.put(1, 1), FULL);
        check.due("bad ahead of full", x.put(1, 9), BAD);
        check.due("cut", x.cut(11993), 7);
        check.due("put 8 on 11993", x.put(1, 8), FULL);
        check.due("the same", x.size(), 11993);
        check.due("put 7 on 11993", x.put(0x01020304050607L, 7), 12000);
        check.due("last", x.byteAt(11999), 1);
        check.due("beyond", x.byteAt(12000), BAD);
        check.due("all", x.cut(0), 12000);
        check.end("FileTest");
    }
}
