/** Counts and prints answers that are not the due ones, with the sentence of the document that they break. */
final class Check {
    private int wrong = 0;
    private int checked = 0;
    private String sentence = "";

    /** What is checked from here on stands for this sentence. */
    void says(String part, String words) {
        sentence = part + " \"" + words + "\": ";
    }

    void due(String call, long got, long want) {
        checked++;
        if (got != want) {
            tell(call + " answered " + got + ", due is " + want);
        }
    }

    void due(String call, String got, String want) {
        checked++;
        if (!String.valueOf(got).equals(String.valueOf(want))) {
            tell(call + " gave\n  " + got + ", due is\n  " + want);
        }
    }

    private void tell(String what) {
        wrong++;
        if (wrong <= 200) {
            System.out.println(sentence + what);
        }
    }

    void end(String name) {
        System.out.println(name + ": " + checked + " checked, " + wrong + " wrong");
        if (wrong > 0) {
            System.exit(1);
        }
    }
}
