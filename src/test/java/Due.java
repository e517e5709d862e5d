/** Counts the answers that are not as due, for the tests of the project. */
final class Due {
    private int wrong = 0;
    private int asked = 0;

    void is(String call, long got, long want) {
        asked++;
        if (got != want) {
            wrong++;
            System.out.println(call + " answered " + got + ", due is " + want);
        }
    }

    void is(String call, boolean got, boolean want) {
        is(call, got ? 1 : 0, want ? 1 : 0);
    }

    void end(String name) {
        System.out.println(name + ": " + (asked - wrong) + " of " + asked + " answers are as due");
        if (wrong != 0 || asked == 0) {
            System.exit(1);
        }
    }

    /** Puts the letters on the tape, whatever lay there; whether they went on it. */
    static boolean tape(ThimbleLaw x, String letters) {
        x.end(0);
        boolean all = true;
        for (int from = 0; from < letters.length(); from += 20) {
            int[] words = new int[5];
            for (int i = 0; i < 20; i++) {
                int sign = from + i < letters.length() ? letters.charAt(from + i) : 0;
                words[i / 4] |= sign << 24 - i % 4 * 8;
            }
            all &= x.feed(words[0], words[1], words[2], words[3], words[4]) != ThimbleLaw.NONE;
        }
        return all & x.end(letters.length()) == letters.length();
    }

    static int read(ThimbleLaw x, String letters) {
        tape(x, letters);
        return x.text();
    }
}
