/** What is due of a test, and how many answers were not so. */
public final class Due {
    private final String test;
    private int wrong = 0;

    public Due(String test) {
        this.test = test;
    }

    public void is(String call, int got, int want) {
        if (got != want) {
            wrong++;
            System.out.println(test + ": " + call + " answered " + got + ", due is " + want);
        }
    }

    public void is(String call, boolean got, boolean want) {
        is(call, got ? 1 : 0, want ? 1 : 0);
    }

    public void end() {
        System.out.println(test + ": " + (wrong == 0 ? "all answers are as due" : wrong + " answers are not as due"));
        System.exit(wrong == 0 ? 0 : 1);
    }

    /** Puts a text on the tape; the blanks that fill up the last twenty bytes are taken back. */
    public static void put(UnderstudyShow show, String text) {
        int rest = (20 - text.length() % 20) % 20;
        String padded = text + " ".repeat(rest);
        for (int at = 0; at < padded.length(); at += 20) {
            int[] fours = new int[5];
            for (int i = 0; i < 20; i++) {
                fours[i / 4] = fours[i / 4] << 8 | padded.charAt(at + i) & 255;
            }
            show.feed(fours[0], fours[1], fours[2], fours[3], fours[4]);
        }
        show.back(rest);
    }

    public static UnderstudyShow show(String text) {
        UnderstudyShow show = new UnderstudyShow();
        put(show, text);
        int fault = show.read();
        if (fault != 0) {
            throw new IllegalStateException("fault " + fault + " at " + show.place() + " of: " + text);
        }
        return show;
    }
}
