/** Counts answers that are not as due, and feeds texts. */
final class Due {
    private int wrong;
    private int asked;

    void is(String call, long want, long got) {
        asked++;
        if (got != want) {
            wrong++;
            System.out.println(call + " answered " + got + ", due is " + want);
        }
    }

    void is(String call, boolean want, boolean got) {
        is(call, want ? 1 : 0, got ? 1 : 0);
    }

    /** Ends with exit code 1 if an answer was wrong. */
    void end(String name) {
        System.out.println(name + ": " + asked + " answers, " + wrong + " not as due");
        if (wrong != 0) {
            System.exit(1);
        }
    }

    /** The text (of signs 0 to 255) comes on the TAPE alone. */
    static void feed(SinglesUp x, String text) {
        x.end(0);
        for (int from = 0; from < text.length(); from += 20) {
            x.feed(four(text, from), four(text, from + 4), four(text, from + 8), four(text, from + 12),
                four(text, from + 16));
        }
        x.end(text.length());
    }

    static int four(String text, int from) {
        int number = 0;
        for (int i = from; i < from + 4; i++) {
            number = number << 8 | (i < text.length() ? text.charAt(i) : ' ');
        }
        return number;
    }

    static int tell(SinglesUp x, int k, String text) {
        feed(x, text);
        return x.text(k);
    }
}
