/** What is due of a test, and how many answers were not so. */
public final class Due {
    private final String test;
    private String sentence = "";
    private int wrong = 0;

    public Due(String test) {
        this.test = test;
    }

    /** What follows is due by this sentence of the document, which has it word by word. */
    public void says(String sentence) {
        this.sentence = " by: " + sentence;
        if (!Document.words().contains(sentence)) {
            wrong++;
            System.out.println(test + ": the document does not say: " + sentence);
        }
    }

    public void is(String call, int got, int want) {
        if (got != want) {
            wrong++;
            System.out.println(test + ": " + call + " answered " + got + ", due is " + want + sentence);
        }
    }

    public void is(String call, boolean got, boolean want) {
        is(call, got ? 1 : 0, want ? 1 : 0);
    }

    /** Rows of answers, the first that differs being told. */
    public void are(String calls, int[] got, int[] want) {
        is(calls + ": how many answers", got.length, want.length);
        for (int i = 0; i < got.length && i < want.length; i++) {
            if (got[i] != want[i]) {
                is(calls + ": answer " + i, got[i], want[i]);
                return;
            }
        }
    }

    public void end() {
        System.out.println(test + ": " + (wrong == 0 ? "all answers are as due" : wrong + " answers are not as due"));
        System.exit(wrong == 0 ? 0 : 1);
    }

    /** Puts a text on the tape; the blanks that fill up the last twenty bytes are taken back. */
    public static void put(UnderstudyShow show, String text) {
        int rest = (20 - text.length() % 20) % 20;
        String padded = text + " ".repeat(rest);
        for (int at = 0; at < padded.length(); at += 20) {
            int[] fours = new int[5];
            for (int i = 0; i < 20; i++) {
                fours[i / 4] = fours[i / 4] << 8 | padded.charAt(at + i) & 255;
            }
            show.feed(fours[0], fours[1], fours[2], fours[3], fours[4]);
        }
        show.back(rest);
    }

    public static UnderstudyShow show(String text) {
        UnderstudyShow show = new UnderstudyShow();
        put(show, text);
        int fault = show.read();
        if (fault != 0) {
            throw new IllegalStateException("fault " + fault + " at " + show.place() + " of: " + text);
        }
        return show;
    }
}
