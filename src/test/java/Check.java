/** Counts and prints answers that are not the due ones. */
final class Check {
    private int wrong = 0;
    private int checked = 0;

    void due(String call, long got, long want) {
        checked++;
        if (got != want) {
            wrong++;
            System.out.println(call + " answered " + got + ", due is " + want);
        }
    }

    void due(String call, String got, String want) {
        checked++;
        if (!got.equals(want)) {
            wrong++;
            System.out.println(call + " gave\n  " + got + ", due is\n  " + want);
        }
    }

    /** The bytes of the file as text: two signs of base 16 for each, a blank between. */
    static String hex(ColumnPages x) {
        StringBuilder text = new StringBuilder();
        for (int i = 0; i < x.size(); i++) {
            if (i > 0) {
                text.append(' ');
            }
            text.append(String.format("%02x", x.byteAt(i)));
        }
        return text.toString();
    }

    /** The file becomes these bytes; groups of signs that are no numbers of base 16 are left out. */
    static void file(ColumnPages x, String hex) {
        x.cut(0);
        for (String part : hex.trim().split("\\s+")) {
            if (part.matches("[0-9a-fA-F]{2}")) {
                x.put(Integer.parseInt(part, 16), 1);
            } else if (!part.isEmpty()) {
                throw new IllegalArgumentException(part);
            }
        }
    }

    static void text(ColumnPages x, int c, String letters) {
        for (int i = 0; i < letters.length(); i++) {
            x.type(letters.charAt(i), 1);
        }
        x.addText(c);
    }

    static void numbers(ColumnPages x, int c, long... numbers) {
        for (long number : numbers) {
            x.add(c, number);
        }
    }

    /** read(c) has this fault at this place, after so many pages and with such a dictionary. */
    void fault(ColumnPages x, int c, int fault, int place, int pages, int dictionary) {
        String name = "file " + hex(x) + " read(" + c + ")";
        due(name, x.read(c), -10 - fault);
        due(name + " fault(0)", x.fault(0), fault);
        due(name + " fault(1)", x.fault(1), place);
        due(name + " fault(2)", x.fault(2), pages);
        due(name + " fault(3)", x.fault(3), dictionary);
    }

    void sound(ColumnPages x, int c, int values, int pages, int dictionary) {
        String name = "file " + hex(x) + " read(" + c + ")";
        due(name, x.read(c), values);
        due(name + " fault(0)", x.fault(0), 0);
        due(name + " fault(1)", x.fault(1), 0);
        due(name + " fault(2)", x.fault(2), pages);
        due(name + " fault(3)", x.fault(3), dictionary);
    }

    void end(String name) {
        System.out.println(name + ": " + checked + " checked, " + wrong + " wrong");
        if (wrong > 0) {
            System.exit(1);
        }
    }
}
