/** What every test here uses: answers held against those that are due, and texts put on the tape. */
final class Check {
    private int wrong;
    private int asked;
    private int sentences;
    private String sentence = "";

    /** What comes behind it tests these words of the document. */
    void sentence(String words) {
        sentence = "[" + words + "] ";
        sentences++;
    }

    void due(String call, long got, long want) {
        asked++;
        if (got != want) {
            wrong++;
            System.out.println(sentence + call + " answered " + got + ", due is " + want);
        }
    }

    void holds(String what, boolean so) {
        due(what, so ? 1 : 0, 1);
    }

    /** Ends the program with exit code 1 if an answer was wrong. */
    void close(String test) {
        System.out.println(test + ": " + (sentences == 0 ? "" : sentences + " sentences, ") + asked + " answers, " + wrong + " wrong");
        if (wrong != 0) {
            System.exit(1);
        }
    }

    /** The tape is emptied and has these bytes alone then. */
    static void type(HeronBook x, String text) {
        x.end(0);
        add(x, text);
    }

    static void add(HeronBook x, String text) {
        int before = x.count(5);
        for (int i = 0; i < text.length(); i += 20) {
            x.feed(four(text, i), four(text, i + 4), four(text, i + 8), four(text, i + 12), four(text, i + 16));
        }
        x.end(before + text.length());
    }

    private static int four(String text, int at) {
        int bits = 0;
        for (int i = at; i < at + 4; i++) {
            bits = bits << 8 | (i < text.length() ? text.charAt(i) & 255 : 0);
        }
        return bits;
    }

    static int read(HeronBook x, String text) {
        type(x, text);
        return x.book();
    }

    /** A new object with this book. */
    static HeronBook of(String text) {
        HeronBook x = new HeronBook();
        if (read(x, text) < 0) {
            throw new IllegalStateException("fault " + x.fault(0) + " at " + x.fault(1) + " in " + text);
        }
        return x;
    }

    static int bits(String traits) {
        int set = 0;
        for (char c : traits.toCharArray()) {
            set |= 1 << c - 'a';
        }
        return set;
    }
}
