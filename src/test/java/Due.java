/** Counts the answers that are not as due, and prints them. */
final class Due {
    private int asked;
    private int wrong;

    void is(int promise, String call, long got, long want) {
        asked++;
        if (got != want) {
            wrong++;
            System.out.println("promise " + promise + ": " + call + " answered " + got + ", due is " + want);
        }
    }

    void holds(String what, boolean does) {
        asked++;
        if (!does) {
            wrong++;
            System.out.println("does not hold: " + what);
        }
    }

    /** Ends the test, with exit code 1 if an answer was wrong. */
    void end() {
        System.out.println(asked + " asked, " + wrong + " wrong");
        if (wrong != 0 || asked == 0) {
            System.exit(1);
        }
    }

    /** Feeds a text, letter by letter: the last answer. */
    static int feed(OtherSidesPump x, String letters) {
        int last = x.count(2);
        for (int i = 0; i < letters.length(); i++) {
            last = x.feed(letters.charAt(i));
        }
        return last;
    }

    /** Feeds a text and reads it. */
    static int text(OtherSidesPump x, String letters) {
        feed(x, letters);
        return x.text();
    }

    /** A station whose rule is this text. */
    static OtherSidesPump ruledBy(String letters) {
        OtherSidesPump x = new OtherSidesPump();
        if (x.force(text(x, letters)) != 0) {
            throw new IllegalArgumentException("no text: " + letters);
        }
        return x;
    }
}
