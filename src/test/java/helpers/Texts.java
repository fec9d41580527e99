import java.util.Random;

/** Texts made by chance: whole ones, and ones in which something is spoiled. */
public final class Texts {
    private static final String[] VARS =
        {"apart", "unlike", "odd", "day", "seen", "hour", "kind", "size", "which"};
    private static final String[] SCRAPS =
        {";", "=", "+", "-", "*", "/", "<", "(", ")", "if", "then", "else", "person", "part", "stands", "least", "seed",
            "7", "100", "24", "10", "12345", "nine", "ninenames", "abcdefgh", "!", "A", "\t", "\n", "\r", " ", "\u00e9",
            "which", "0", "ann", "part p", "person q 1 1 1;", "marks = 1;", "(((((((1)))))))", "((((((1))))))",
            "if 1 < 2 then 3 else "};

    private final Random chance;

    public Texts(Random chance) {
        this.chance = chance;
    }

    private String pick(String... words) {
        return words[chance.nextInt(words.length)];
    }

    private String sum(int depth) {
        int kind = chance.nextInt(10);
        if (depth == 0 || kind < 4) {
            return chance.nextInt(3) == 0 ? "" + chance.nextInt(chance.nextInt(8) == 0 ? 10000 : 13) : pick(VARS);
        }
        String left = sum(depth - 1);
        String right = sum(depth - 1);
        return kind < 6 ? "(" + left + ")" + pick(" * ", "/", "+", "-") + right
            : left + pick(" + ", " - ", "*", " / ") + right;
    }

    private String law() {
        StringBuilder law = new StringBuilder();
        for (int ifs = chance.nextInt(6) - 2; ifs > 0; ifs--) {
            law.append("if " + sum(1) + " < " + sum(2) + " then " + sum(2) + " else ");
        }
        return law + sum(chance.nextInt(4));
    }

    /** Laws by which people are likely to stand somewhere between nothing and all. */
    private String standsLaw() {
        return pick("10 - apart - unlike - odd", "12 - apart", "20 - apart*2 - unlike + seen",
            "30 - apart * apart - odd", "if day - day / 3 * 3 < 1 then 15 - apart else 9 - odd",
            "24 - hour + which", "60 / (apart + 1) - seen", "9 - apart + kind - which", law());
    }

    public String whole() {
        StringBuilder text = new StringBuilder();
        int people = chance.nextInt(8);
        int parts = chance.nextInt(7);
        for (int i = 0; i < people + parts; i++) {
            boolean person = i < people;
            text.append(person ? "person " : "part ").append((char) ('a' + i)).append(pick("", "x", "yz"));
            text.append(' ').append(chance.nextInt(24)).append(' ').append(chance.nextInt(chance.nextBoolean() ? 10 : 3));
            text.append(' ').append(chance.nextInt(chance.nextBoolean() ? 10 : 3)).append(pick(";", " ; ", ";\n"));
        }
        if (chance.nextInt(3) > 0) {
            text.append("stands = " + standsLaw() + ";");
        }
        if (chance.nextInt(4) > 0) {
            text.append("writes = " + pick("1", "1", "seen - 1", "apart - 1", "which", law()) + ";");
        }
        if (chance.nextBoolean()) {
            text.append("marks = " + pick("which + 1", "99", "seen", "kind*size", law()) + ";");
        }
        if (chance.nextInt(3) > 0) {
            text.append("dogs = " + pick("30", "100", "10 + which * 20", "99", "1", "5*apart", law()) + ";");
        }
        if (chance.nextInt(3) > 0) {
            text.append("least " + chance.nextInt(chance.nextBoolean() ? 12 : 3) + ";");
        }
        if (chance.nextBoolean()) {
            text.append("seed " + chance.nextInt(10000) + ";");
        }
        return text.toString();
    }

    /** No fault of SYNTAX, but names told twice, wrong numbers, too many of a sort are likely. */
    public String flawed() {
        StringBuilder text = new StringBuilder();
        int people = 0;
        int parts = 0;
        for (int tells = 1 + chance.nextInt(15); tells > 0; tells--) {
            switch (chance.nextInt(people + parts > 8 ? 5 : 9)) {
                case 0:
                    text.append("least " + chance.nextInt(chance.nextInt(4) == 0 ? 200 : 100) + ";");
                    break;
                case 1:
                    text.append("seed " + chance.nextInt(10000) + ";");
                    break;
                case 2:
                    int deep = 4 + chance.nextInt(4);
                    text.append("marks = 3 + " + "(".repeat(deep) + "which" + ")".repeat(deep) + ";");
                    break;
                case 3:
                    text.append("dogs = " + "if which < 1 then day else ".repeat(2 + chance.nextInt(4)) + "5;");
                    break;
                case 4:
                    text.append(pick("stands", "writes") + " = " + law() + ";");
                    break;
                default:
                    boolean person = chance.nextInt(13) < 7;
                    people += person ? 1 : 0;
                    parts += person ? 0 : 1;
                    text.append((person ? "person n" : "part n") + (char) ('a' + chance.nextInt(26)) + pick("", "b", "c"));
                    text.append(" " + chance.nextInt(chance.nextInt(9) == 0 ? 30 : 24));
                    text.append(" " + chance.nextInt(chance.nextInt(9) == 0 ? 15 : 10));
                    text.append(" " + chance.nextInt(chance.nextInt(9) == 0 ? 15 : 10) + ";");
            }
        }
        return text.toString();
    }

    public String spoiled() {
        StringBuilder text = new StringBuilder(whole());
        for (int times = 1 + chance.nextInt(2); times > 0; times--) {
            int at = chance.nextInt(text.length() + 1);
            int kind = chance.nextInt(4);
            if (kind == 0) {
                text.setLength(at);
            } else if (kind == 1) {
                text.delete(at, Math.min(text.length(), at + 1 + chance.nextInt(3)));
            } else {
                text.insert(at, pick(SCRAPS));
            }
        }
        return text.toString();
    }

    /** Some 400 tokens, a little more or less. */
    public String long400() {
        StringBuilder text = new StringBuilder();
        for (int i = 0; i < 66; i++) {
            text.append(i % 2 == 0 ? "seed 1;" : "marks=" + (i % 5) + ";");
        }
        int tokens = 33 * 3 + 33 * 4;
        text.append("stands=");
        tokens += 2;
        int target = 392 + chance.nextInt(12);
        text.append("1");
        tokens++;
        while (tokens < target) {
            text.append(pick("+", "-", "*", "/")).append(pick("1", "day", "odd"));
            tokens += 2;
        }
        return text.append(pick(";", ";;", "", "+", "!", "; part p 1 1 1;", "; person a 1 1 1; person a 1 1 1;",
            "123456", "; ")).toString();
    }
}
