/** Compares answers with those that are due, prints each that isn't, and ends the test. */
final class Check {
    static final int BEYOND = -1000001;
    static final int NONE = -1000002;
    static final int STATE = -1000003;
    static final int FULL = -1000004;
    static final int KIND = -1000005;

    private final String name;
    private int asked;
    private int wrong;

    Check(String name) {
        this.name = name;
    }

    void due(String call, long got, long want) {
        asked++;
        if (got != want) {
            wrong++;
            System.out.println(name + ": " + call + " answered " + got + ", due is " + want);
        }
    }

    void holds(String what, boolean does) {
        asked++;
        if (!does) {
            wrong++;
            System.out.println(name + ": it doesn't hold that " + what);
        }
    }

    int wrong() {
        return wrong;
    }

    void end() {
        System.out.println(name + ": " + asked + " asked, " + wrong + " wrong");
        if (wrong != 0) {
            System.exit(1);
        }
    }

    /** Feeds a text byte by byte in words of eight; answers what the last feed() answered. */
    static int feed(TrainMile x, String text) {
        int fed = 0;
        for (int i = 0; i < text.length(); i += 8) {
            int n = Math.min(8, text.length() - i);
            long word = 0;
            for (int k = n - 1; k >= 0; k--) {
                word = word << 8 | text.charAt(i + k) & 255;
            }
            fed = x.feed(word, n);
        }
        return fed;
    }

    /** Feeds a text and makes it that of a use; answers what text() answered. */
    static int text(TrainMile x, int use, String text) {
        feed(x, text);
        return x.text(use);
    }
}
