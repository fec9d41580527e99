import java.util.List;
import java.util.Set;

/** The edges that the document names of the tape and of texts (promises 1 to 5), sentence by sentence. */
public final class EdgesOfTextsTest {
    private static final Due DUE = new Due("EdgesOfTextsTest");
    private static final int GOOD = 0;
    private static final int SYNTAX = 1;
    private static final int ROOM = 2;
    private static final int TWICE = 3;
    private static final int WRONG = 5;
    private static final List<String> WORDS = List.of("person", "part", "stands", "writes", "marks", "dogs", "least",
        "seed", "if", "then", "else", "apart", "unlike", "odd", "day", "seen", "hour", "kind", "size", "which");
    private static final String ONE_IF = "if 1 < 2 then 3 else ";

    private static void text(String text, int fault, int place) {
        UnderstudyShow x = new UnderstudyShow();
        Due.put(x, text);
        DUE.is("read() of " + text, x.read(), fault);
        DUE.is("place() of " + text, x.place(), place);
    }

    private static void good(String text) {
        text(text, GOOD, -1);
    }

    private static boolean isLetter(int sign) {
        return sign >= 97 && sign <= 122;
    }

    private static boolean isDigit(int sign) {
        return sign >= 48 && sign <= 57;
    }

    private static boolean isBlank(int sign) {
        return sign == 9 || sign == 10 || sign == 13 || sign == 32;
    }

    private static void theLastOfTheCalls() {
        DUE.says("An object is used for at most 512 calls after it has been made; what later calls answer is free.");
        UnderstudyShow x = Due.show("person a 0 1 1; part p 0 1 1; part q 1 1 1; writes = 1; dogs = 50;");
        // four feeds, back and read are six calls
        for (int call = 7; call < 512; call++) {
            DUE.is("move, call " + call, x.move(0, (call + 1) % 24), true);
        }
        DUE.is("person(0, 0), call 512", x.person(0, 0), 8);
        for (int more = 0; more < 600; more++) {
            x.days(60);
            x.hold(more % 3);
            x.tell(more % 2, more % 100, true);
            x.feed(more, more, more, more, more);
            x.undo();
        }
    }

    private static void texts() {
        DUE.says("A TEXT has 2,000 bytes at most.");
        UnderstudyShow x = new UnderstudyShow();
        Due.put(x, " ".repeat(1983) + "person a 7 8 9;  ");
        DUE.is("bytes", x.count(8), 2000);
        DUE.is("a text of 2,000 bytes", x.read(), GOOD);
        DUE.is("its PERSON", x.person(0, 0), 7);
        good(" ".repeat(1984) + "person a 7 8 9; ");
        good(" ".repeat(1985) + "person a 7 8 9;");
        text(" ".repeat(1999) + "!", SYNTAX, 1999);
        text(" ".repeat(1999) + ";", SYNTAX, 1999);
        text(" ".repeat(1994) + "person", SYNTAX, 2000);
        text(" ".repeat(1993) + "person ", SYNTAX, 2000);
    }

    private static void blanks() {
        DUE.says("TOKENS, the longest that can be, with blanks (9, 10, 13, 32) between or not:");
        for (int sign = 0; sign < 256; sign++) {
            String text = "seed" + (char) sign + "1;";
            if (isBlank(sign) || isDigit(sign)) {
                good(text);
            } else {
                text(text, SYNTAX, isLetter(sign) ? 0 : 4);
            }
        }
        good("\t\n\r person\t\n\r a\t\n\r 1\t\n\r 1\t\n\r 1\t\n\r ;\t\n\r ");
        good("person a1 1 1;part b2 2 2;least1;seed1;marks=if(1)<2then(3)else(4);");
        good("person ifa 1 1 1; part dayday 1 1 1;");
        text("marks = if1 < 2 then 3 elsea;", SYNTAX, 23);
        text("person a 1 1 1 1;", SYNTAX, 15);
        text("person a 11 1;", SYNTAX, 13);
    }

    private static void names() {
        DUE.says("NAMES (letters a .. z, 8 at most, none of the words in quotes)");
        for (int sign = 0; sign < 256; sign++) {
            String text = "person " + (char) sign + " 1 1 1;";
            if (isLetter(sign)) {
                good(text);
            } else {
                text(text, SYNTAX, isBlank(sign) ? 9 : 7);
            }
        }
        good("person abcdefgh 1 1 1; part zzzzzzzz 1 1 1;");
        text("person abcdefghi 1 1 1;", SYNTAX, 7);
        text("part abcdefghi 1 1 1;", SYNTAX, 5);
        text("person " + "z".repeat(30) + " 1 1 1;", SYNTAX, 7);
        text("person a1 1 1; person aB 1 1 1;", SYNTAX, 23);
        for (String word : WORDS) {
            text("person " + word + " 1 1 1;", SYNTAX, 7);
            text("part " + word + " 1 1 1;", SYNTAX, 5);
            good("person " + word + "s 1 1 1;");
            good("person x" + word + " 1 1 1;");
            String less = word.substring(0, word.length() - 1);
            if (!WORDS.contains(less)) {
                good("part " + less + " 1 1 1;");
            }
        }
    }

    private static void namesAreToldApart() {
        DUE.says("NAMES (letters a .. z, 8 at most");
        good("person a 1 1 1; person aa 1 1 1; person aaaaaaaa 1 1 1; person aaaaaaa 1 1 1; part aaaaaaab 1 1 1;"
            + "part baaaaaaa 1 1 1; part z 1 1 1; part zz 1 1 1; part zzzzzzzz 1 1 1; part zzzzzzzy 1 1 1;");
        text("person aaaaaaaz 1 1 1; part aaaaaaaz 1 1 1;", TWICE, 28);
    }

    private static void ints() {
        DUE.says("INTS (1 to 4 digits)");
        for (int sign = 0; sign < 256; sign++) {
            String text = "least " + (char) sign + ";";
            if (isDigit(sign)) {
                good(text);
            } else {
                text(text, SYNTAX, isBlank(sign) ? 7 : 6);
            }
        }
        good("seed 0; seed 00; seed 000; seed 0000; seed 9; seed 99; seed 999; seed 9999;");
        text("seed 00000;", SYNTAX, 5);
        text("seed 10000;", SYNTAX, 5);
        text("seed 99999999999999999999;", SYNTAX, 5);
        text("seed ;", SYNTAX, 5);
        good("person a 0023 0009 0000; least 0099; marks = 9999;");
        text("person a 00023 1 1;", SYNTAX, 9);
        text("marks = 10000;", SYNTAX, 8);
        text("marks = 1 + 00001;", SYNTAX, 12);
    }

    private static void signs() {
        DUE.says("SIGNS ; = + - * / < ( ) . A longer one, all else, is no TOKEN.");
        for (int sign = 0; sign < 256; sign++) {
            String text = "marks = 1 " + (char) sign + " 1;";
            if (sign == '+' || sign == '-' || sign == '*' || sign == '/') {
                good(text);
            } else {
                text(text, SYNTAX, isBlank(sign) || sign == ';' ? 12 : 10);
            }
        }
        good("marks=if(1+2-3)*4/5<6then 7else 8;");
        text("marks = 1 ++ 1;", SYNTAX, 11);
        text("marks = 1 .", SYNTAX, 10);
        text("abcdefghi", SYNTAX, 0);
        text("person abcdefghi", SYNTAX, 7);
        text("person a 12345", SYNTAX, 9);
    }

    /** A text cut behind each of its TOKENS goes on, or is one by itself at the end of a TELL. */
    private static void tells() {
        DUE.says("text: {TELL}.");
        good("");
        good(" ");
        String[] tells = {"person ann 1 2 3 ;", "part coach 1 2 3 ;", "stands = 1 ;", "writes = apart ;", "marks = 1 + 2 ;",
            "dogs = ( 1 ) * 2 ;", "least 5 ;", "seed 6 ;", "stands = if 1 < 2 then 3 else if 4 < day then 5 else 6 / 7 ;"};
        StringBuilder before = new StringBuilder();
        for (String tell : tells) {
            String[] tokens = tell.split(" ");
            for (int many = 1; many < tokens.length; many++) {
                String cut = before + String.join(" ", List.of(tokens).subList(0, many));
                text(cut, SYNTAX, cut.length());
                text(cut + " ", SYNTAX, cut.length() + 1);
                text(cut + " !", SYNTAX, cut.length() + 1);
            }
            before.append(tell).append(' ');
            good(before.toString());
            text(before + ";", SYNTAX, before.length());
        }
    }

    private static void kindsOfTells() {
        DUE.says("TELL: 'person' NAME INT INT INT ';' | 'part' NAME INT INT INT ';' | ('stands' | 'writes' | 'marks' "
            + "| 'dogs') LAW ';' | 'least' INT ';' | 'seed' INT ';'.");
        for (String sort : List.of("person", "part")) {
            int at = sort.length();
            good(sort + " a 1 2 3;");
            text(sort + " 1 2 3;", SYNTAX, at + 1);
            text(sort + " a;", SYNTAX, at + 2);
            text(sort + " a 1;", SYNTAX, at + 4);
            text(sort + " a 1 2;", SYNTAX, at + 6);
            text(sort + " a 1 2 3 4;", SYNTAX, at + 9);
            text(sort + " a b 1 2 3;", SYNTAX, at + 3);
            text(sort + " a = 1;", SYNTAX, at + 3);
            text(sort + " a 1 2 3,", SYNTAX, at + 8);
        }
        for (String law : List.of("stands", "writes", "marks", "dogs")) {
            good(law + " = 1;");
            text(law + " 1;", SYNTAX, law.length() + 1);
            text(law + " = ;", SYNTAX, law.length() + 3);
            text(law + " = = 1;", SYNTAX, law.length() + 3);
        }
        for (String number : List.of("least", "seed")) {
            good(number + " 1;");
            text(number + ";", SYNTAX, number.length());
            text(number + " = 1;", SYNTAX, number.length() + 1);
            text(number + " 1 2;", SYNTAX, number.length() + 3);
            text(number + " day;", SYNTAX, number.length() + 1);
        }
    }

    private static void shapesOfLaws() {
        DUE.says("LAW: '=' {'if' E '<' E 'then' E 'else'} E.");
        good("marks = 1;");
        good("marks = if 1 < 2 then 3 else 4;");
        good("marks = if 1 < 2 then 3 else if 1 < 2 then 3 else 4;");
        text("marks = if 1 < 2 then 3;", SYNTAX, 23);
        text("marks = if 1 < 2 else 3;", SYNTAX, 17);
        text("marks = if 1 then 2 else 3;", SYNTAX, 13);
        text("marks = if < 2 then 3 else 4;", SYNTAX, 11);
        text("marks = if 1 < then 3 else 4;", SYNTAX, 15);
        text("marks = if 1 < 2 then else 4;", SYNTAX, 22);
        text("marks = if 1 < 2 < 3 then 4 else 5;", SYNTAX, 17);
        text("marks = if 1 < 2 then 3 else 4 else 5;", SYNTAX, 31);
        text("marks = 1 < 2;", SYNTAX, 10);
        DUE.says("E: PART {('+' | '-') PART}. PART: UNIT {('*' | '/') UNIT}.");
        good("marks = 1 + 2 - 3 * 4 / 5;");
        for (String sign : List.of("+", "-", "*", "/")) {
            text("marks = " + sign + " 1;", SYNTAX, 8);
            text("marks = 1 " + sign + ";", SYNTAX, 11);
            text("marks = 1 " + sign + " " + sign + " 1;", SYNTAX, 12);
            text("marks = (1 " + sign + ") ;", SYNTAX, 12);
        }
        UnderstudyShow x = Due.show("person a 1 1 1; part p 1 1 1; marks = 20 - 5 - 3 + 2 * 3 * 4 / 5 / 2;"
            + "writes = 2 + 3 * 4; stands = 40 / 4 * 2 - 1;");
        DUE.is("from the left on", x.tells(0, 0, 2), 14);
        DUE.is("a PART is of one piece", x.tells(0, 0, 1), 14);
        DUE.is("from the left on", x.tells(0, 0, 0), 19);
        DUE.says("UNIT: INT | VAR | '(' E ')'. VAR: 'apart' | 'unlike' | 'odd' | 'day' | 'seen' | 'hour' | 'kind' | "
            + "'size' | 'which'.");
        good("marks = 1 + apart - (unlike) * (odd / (day + seen)) + hour + kind + size + which;");
        text("marks = apart unlike;", SYNTAX, 14);
        text("marks = (1) (2);", SYNTAX, 12);
        text("marks = 2 (3);", SYNTAX, 10);
        text("marks = (1 2);", SYNTAX, 11);
        text("marks = ((1);", SYNTAX, 12);
        text("marks = (1));", SYNTAX, 11);
        text("marks = ann;", SYNTAX, 8);
    }

    private static void everyWordElsewhere() {
        DUE.says("1 SYNTAX: a TOKEN, or what is none, with which no text goes on.");
        Set<String> begins = Set.of("person", "part", "stands", "writes", "marks", "dogs", "least", "seed");
        Set<String> vars = Set.of("apart", "unlike", "odd", "day", "seen", "hour", "kind", "size", "which");
        for (String word : WORDS) {
            text(word, SYNTAX, begins.contains(word) ? word.length() : 0);
            text("marks = " + word + ";", vars.contains(word) ? GOOD : SYNTAX,
                vars.contains(word) ? -1 : 8 + (word.equals("if") ? 2 : 0));
            text("marks = 1 " + word, SYNTAX, 10);
            text("least " + word, SYNTAX, 6);
            text("seed 1 " + word, SYNTAX, 7);
        }
        text("ann", SYNTAX, 0);
        text("7", SYNTAX, 0);
        text("marks = if 1 < 2 then 3 else", SYNTAX, 28);
        text("marks = if if 1 < 2 then 3 else 4;", SYNTAX, 11);
        text("marks = if 1 < if 1 < 2 then 3 else 4;", SYNTAX, 15);
        text("marks = (1 < 2);", SYNTAX, 11);
        text("marks = ();", SYNTAX, 9);
        text("marks = (1;", SYNTAX, 10);
        text("marks = 1);", SYNTAX, 9);
        text("marks = if (1 < 2) then 3 else 4;", SYNTAX, 14);
        text("marks = +1;", SYNTAX, 8);
        text("marks = 2 * -1;", SYNTAX, 12);
        text("seed 1; ! seed", SYNTAX, 8);
    }

    private static String people(int n) {
        StringBuilder text = new StringBuilder();
        for (int i = 0; i < n; i++) {
            text.append("person ").append((char) ('a' + i)).append(" 1 1 1;");
        }
        return text.toString();
    }

    private static String parts(int n) {
        StringBuilder text = new StringBuilder();
        for (int i = 0; i < n; i++) {
            text.append("part ").append((char) ('p' + i)).append(" 1 1 1;");
        }
        return text.toString();
    }

    private static void howManyOfASort() {
        DUE.says("PEOPLE, 7 at most, PARTS, 6 at most");
        UnderstudyShow x = Due.show(people(7) + parts(6));
        DUE.is("PEOPLE", x.count(0), 7);
        DUE.is("PARTS", x.count(1), 6);
        DUE.is("the last PERSON", x.person(6, 1), 1);
        DUE.is("the last PART", x.part(5, 1), 1);
        good(parts(6) + people(7));
        DUE.says("one more of a sort than told (at its first TOKEN);");
        text(people(8), ROOM, 7 * 15);
        text(parts(7), ROOM, 6 * 13);
        text(parts(6) + people(8), ROOM, 6 * 13 + 7 * 15);
        text(people(7) + parts(7), ROOM, 7 * 15 + 6 * 13);
        text(people(7) + " person", ROOM, 7 * 15 + 1);
        text(people(7) + " person a 99 99 99", ROOM, 7 * 15 + 1);
        text(parts(6) + " part !", ROOM, 6 * 13 + 1);
        good("least 1;".repeat(20) + "seed 1;".repeat(20) + "dogs=1;".repeat(20));
    }

    private static void numbersOfFigures() {
        DUE.says("(each: a NAME, the HOUR of the day 0 .. 23, KIND 0 .. 9, SIZE 0 .. 9), numbered each from 0 on as "
            + "they stand.");
        UnderstudyShow x = Due.show("part p 0 0 0; person a 23 9 9; person b 0 0 0; part q 23 9 9; person c 12 3 4;");
        int[][] people = {{23, 9, 9}, {0, 0, 0}, {12, 3, 4}};
        int[][] parts = {{0, 0, 0}, {23, 9, 9}};
        for (int what = 0; what < 3; what++) {
            for (int person = 0; person < 3; person++) {
                DUE.is("person(" + person + ", " + what + ")", x.person(person, what), people[person][what]);
            }
            for (int part = 0; part < 2; part++) {
                DUE.is("part(" + part + ", " + what + ")", x.part(part, what), parts[part][what]);
            }
        }
    }

    private static void wrongNumbers() {
        DUE.says("5 WRONG (at the INT): a number not as told above.");
        for (String sort : List.of("person", "part")) {
            int at = sort.length() + 3;
            good(sort + " a 23 9 9;");
            good(sort + " a 0 0 0;");
            text(sort + " a 24 1 1;", WRONG, at);
            text(sort + " a 9999 1 1;", WRONG, at);
            text(sort + " a 1 10 1;", WRONG, at + 2);
            text(sort + " a 1 1 10;", WRONG, at + 4);
            text(sort + " a 1 0010 0010;", WRONG, at + 2);
            text(sort + " a   24 10 10;", WRONG, at + 2);
        }
        good("least 99;");
        text("least 100;", WRONG, 6);
        text("least 9999; least 5;", WRONG, 6);
        text("least 5; least\t100;", WRONG, 15);
        good("seed 9999; marks = 9999;");
    }

    private static void lawsIfNotTold() {
        DUE.says("LAWS: STANDS (10 less apart less unlike less odd), WRITES (0), MARKS (1), DOGS (0), if not told; "
            + "the last one.");
        UnderstudyShow x = Due.show("person a 7 5 4; part p 5 4 0;");
        DUE.is("STANDS", x.tells(0, 0, 0), 3);
        DUE.is("WRITES", x.tells(0, 0, 1), 0);
        DUE.is("MARKS", x.tells(0, 0, 2), 1);
        DUE.is("DOGS", x.part(0, 5), 0);
        String two = "stands = 1; stands = 2; writes = if 1 < 2 then 3 else 4; writes = 5; marks = 6; marks = 7;"
            + "dogs = 8; dogs = 9;";
        x = Due.show("person a 7 5 4;" + two + "part p 5 4 0;");
        DUE.is("the last STANDS", x.tells(0, 0, 0), 2);
        DUE.is("the last WRITES", x.tells(0, 0, 1), 5);
        DUE.is("the last MARKS", x.tells(0, 0, 2), 7);
        DUE.is("the last DOGS", x.part(0, 5), 9);
    }

    private static int castBy(String least, int stands) {
        return Due.show("person a 1 1 1; part p 1 1 1; " + least + " stands = " + stands + ";").part(0, 3);
    }

    private static void leastAndSeed() {
        DUE.says("LEAST 0 .. 99: how well one must stand for a PART at least (1), SEED 0 .. 9999 (0): the last one.");
        DUE.is("LEAST if not told, by 0", castBy("", 0), -2);
        DUE.is("LEAST if not told, by 1", castBy("", 1), 0);
        DUE.is("LEAST 0, by 0", castBy("least 0;", 0), 0);
        DUE.is("LEAST 99, by 98", castBy("least 99;", 98), -2);
        DUE.is("LEAST 99, by 99", castBy("least 99;", 99), 0);
        DUE.is("the last LEAST", castBy("least 99; least 4; least 5;", 4), -2);
        DUE.is("the last LEAST", castBy("least 99; least 6; least 5;", 5), 0);
        // LOTS of the first day: SEED 0 90, SEED 9 97, SEED 9999 46
        String text = "person a 5 1 1; part p 5 1 1; dogs = 91;";
        DUE.is("SEED if not told", Due.show(text).then(0, 1, 0), 6);
        DUE.is("SEED 0", Due.show(text + "seed 0;").then(0, 1, 0), 6);
        DUE.is("SEED 9", Due.show(text + "seed 9;").then(0, 1, 0), 5);
        DUE.is("the last SEED", Due.show("seed 0; seed 9;" + text).then(0, 1, 0), 5);
        DUE.is("the last SEED", Due.show("seed 9; seed 0;" + text).then(0, 1, 0), 6);
        DUE.is("SEED 9999, by 46", Due.show(text + "seed 9999; dogs = 46;").then(0, 1, 0), 5);
        DUE.is("SEED 9999, by 47", Due.show(text + "seed 9999; dogs = 47;").then(0, 1, 0), 6);
    }

    private static void theFirstFault() {
        DUE.says("FAULTS of a text, the first by its place (a byte; the text's end: its length), of one place the "
            + "least:");
        text("person a 1 1 1", SYNTAX, 14);
        text("person a 1 1 1  ", SYNTAX, 16);
        text("!", SYNTAX, 0);
        text("x y", SYNTAX, 0);
        text("person ! part !", SYNTAX, 7);
        text(people(8) + "!", ROOM, 105);
        text(people(7) + "! person", SYNTAX, 105);
        text("marks = " + "(".repeat(7) + " !", ROOM, 14);
        text("marks = " + "(".repeat(6) + "! (", SYNTAX, 14);
        text("marks = " + ONE_IF.repeat(4) + "if !", ROOM, 8 + 84);
        text("marks = " + ONE_IF.repeat(3) + "if ! if", SYNTAX, 8 + 63 + 3);
        String full = "marks=1;".repeat(100);
        text(full + "dogs", ROOM, 800);
        text(full + ";", SYNTAX, 800);
        text(full + "abcdefghi", SYNTAX, 800);
        text(full + "12345", SYNTAX, 800);
        text(full + "if", SYNTAX, 800);
    }

    private static void theFourHundredFirst() {
        DUE.says("2 ROOM: a 401st TOKEN;");
        String full = "marks=1;".repeat(100);
        good(full);
        good(full + " \t\r\n");
        text(full + "marks=1;", ROOM, 800);
        text(full + "  seed 1;", ROOM, 802);
        text(full + "person", ROOM, 800);
        String threes = "seed 1;".repeat(132);
        good(threes + "dogs=1;");
        text(threes + "seed 1; dogs=2;", ROOM, 132 * 7 + 8 + 4);
        text(threes + "dogs=1+2;", ROOM, 132 * 7 + 7);
        text(threes + "dogs=1+;", SYNTAX, 132 * 7 + 7);
        good("stands=1" + "+1".repeat(198) + ";");
        text("stands=1" + "+1".repeat(198) + "+1;", ROOM, 8 + 396 + 1);
        text("stands=1" + "+1".repeat(199), ROOM, 8 + 396 + 1);
        text("stands=1" + "+1".repeat(198) + "+", SYNTAX, 8 + 396 + 1);
        text("least 100;" + "seed 1;".repeat(133), ROOM, 10 + 132 * 7 + 5);
    }

    /** A text of so many TOKENS (6 or more), made of TELLS of three and of four. */
    private static String filler(int tokens) {
        int fours = tokens % 3;
        return "seed 1;".repeat((tokens - 4 * fours) / 3) + "dogs=1;".repeat(fours);
    }

    private static void theFourHundredFirstAnywhere() {
        DUE.says("of one place the least: 1 SYNTAX: a TOKEN, or what is none, with which no text goes on. 2 ROOM: a 401st TOKEN;");
        String[] tells = {"person ann 1 2 3 ;", "part coach 1 2 3 ;", "stands = apart + 2 * ( 3 - 4 ) / 5 ;", "least 5 ;", "seed 6 ;",
            "marks = if 1 < 2 then 3 else if ( 4 ) < day then 5 else 6 ;"};
        for (String tell : tells) {
            List<String> tokens = List.of(tell.split(" "));
            for (int many = 1; many < tokens.size(); many++) {
                String cut = filler(400 - many) + String.join(" ", tokens.subList(0, many)) + " ";
                text(cut + tokens.get(many), ROOM, cut.length());
                text(cut + "least", SYNTAX, cut.length());
                text(cut + "!", SYNTAX, cut.length());
                text(cut, SYNTAX, cut.length());
            }
            String whole = filler(400 - tokens.size()) + tell;
            good(whole);
            text(whole + "person", ROOM, whole.length());
            text(whole + "then", SYNTAX, whole.length());
        }
    }

    private static void theFifthIf() {
        DUE.says("a 5th if of a LAW (at it);");
        for (String law : List.of("stands", "writes", "marks", "dogs")) {
            int at = law.length() + 3;
            good(law + " = " + ONE_IF.repeat(4) + "5;");
            text(law + " = " + ONE_IF.repeat(5) + "5;", ROOM, at + 84);
            text(law + " = " + ONE_IF.repeat(4) + " if", ROOM, at + 85);
        }
        good(("marks = " + ONE_IF.repeat(4) + "5;").repeat(3));
        good("marks = " + ONE_IF.repeat(4) + "5; dogs = " + ONE_IF.repeat(4) + "6;");
        text("marks = " + ONE_IF.repeat(3) + "if 1 < 2 then if", SYNTAX, 8 + 63 + 14);
    }

    private static String deep(int n) {
        return "(".repeat(n) + "1" + ")".repeat(n);
    }

    private static void theSeventhBracket() {
        DUE.says("a 7th ( within one another (at it).");
        good("marks = " + deep(6) + ";");
        text("marks = " + deep(7) + ";", ROOM, 14);
        text("marks = ((((((( !", ROOM, 14);
        text("marks = (1 + (2 + (3 + (4 + (5 + (6 + (7", ROOM, 8 + 6 * 5);
        good("marks = " + "(1) + ".repeat(20) + "1;");
        good("marks = " + deep(6) + "+" + deep(6) + "*" + deep(6) + "/ (" + deep(5) + "-" + deep(5) + ");");
        text("marks = " + deep(6) + "+(" + deep(6) + ");", ROOM, 8 + 13 + 2 + 5);
        good("marks = if " + deep(6) + " < " + deep(6) + " then " + deep(6) + " else " + deep(6) + ";");
        text("marks = if 1 < " + deep(7) + " then 1 else 1;", ROOM, 15 + 6);
        text("marks = if 1 < 1 then " + deep(7) + " else 1;", ROOM, 22 + 6);
        text("marks = ((((((1(", SYNTAX, 15);
    }

    private static void twice() {
        DUE.says("If there is none, likewise: 3 TWICE: a NAME told already (of PEOPLE and PARTS together).");
        text("person a 1 1 1; person a 1 1 1;", TWICE, 23);
        text("part a 1 1 1; part a 1 1 1;", TWICE, 19);
        text("person a 1 1 1; part a 1 1 1;", TWICE, 21);
        text("part a 1 1 1; person a 1 1 1;", TWICE, 21);
        text(people(7) + "part g 1 1 1;", TWICE, 105 + 5);
        text(people(7) + parts(5) + "part t 1 1 1;", TWICE, 105 + 65 + 5);
        text("person a 1 1 1; person b 1 1 1; person b 1 1 1; person a 1 1 1;", TWICE, 39);
        text("person a 24 1 1; person a 1 1 1;", WRONG, 9);
        text("person a 1 1 1; person a 24 1 1;", TWICE, 23);
        text("person a 1 1 1; person a 1 1 1; !", SYNTAX, 32);
        text("person a 1 1 1; person a 1 1 1; seed", SYNTAX, 36);
        text("person a 24 1 1; marks = " + deep(7) + ";", ROOM, 25 + 6);
        text("least 100;" + people(8), ROOM, 10 + 105);
        good("person a 1 1 1; part b 1 1 1; person ab 1 1 1; part ba 1 1 1;");
    }

    private static void aFaultChangesNothing() {
        DUE.says("A text with a FAULT changes nothing but the tape;");
        String other = "stands = 1; writes = 2; marks = 3; dogs = 4; least 5; seed 6; part x 9 9 9; person y 8 8 8;";
        String[] faulty = {other + "!", other + "part", other + deepest(), other + "person y 1 1 1;", other + "least 100;",
            "person a 24 1 1;", "!"};
        int[] faults = {SYNTAX, SYNTAX, ROOM, TWICE, WRONG, WRONG, SYNTAX};
        for (int i = 0; i < faulty.length; i++) {
            UnderstudyShow with = Look.busy();
            UnderstudyShow without = Look.busy();
            with.back(20);
            without.back(20);
            Due.put(with, faulty[i]);
            DUE.is("read() of " + faulty[i], with.read(), faults[i]);
            DUE.is("the tape is empty behind " + faulty[i], with.count(8), 0);
            DUE.are("nothing changes by " + faulty[i], Look.deep(with), Look.deep(without));
        }
    }

    private static String deepest() {
        return "marks = " + deep(7) + ";";
    }

    private static void aTextIsInPlaceOfTheOneAhead() {
        DUE.says("else it is in place of the one ahead: day 0, nobody seen, no marks, nobody kept off; nothing can be "
            + "undone, nothing is TOLD, SLOTS hold nothing.");
        String[] texts = {"", "person c 1 1 1;", "part z 1 1 1;", "person c 9 1 2; part z 9 1 2;",
            "person c 9 1 2; person d 9 1 2; part z 9 1 2; part y 8 8 8; writes = 1; dogs = 100; marks = 9; least 0; seed 1;"};
        for (String text : texts) {
            UnderstudyShow x = Look.busy();
            x.hold(0);
            x.hold(2);
            x.back(20);
            Due.put(x, text);
            DUE.is("read() of " + text, x.read(), GOOD);
            DUE.is("the day", x.count(2), 0);
            DUE.is("MARKS", x.count(5), 0);
            DUE.is("kept off", x.count(6), 0);
            DUE.is("DOGS that ran out", x.count(7), 0);
            DUE.is("things that can be undone", x.count(9), 0);
            DUE.is("TOLD ones", x.count(10), 0);
            DUE.is("SLOTS", x.count(11), 0);
            DUE.are("as if it were read by a new object: " + text, Look.deep(x), Look.deep(Due.show(text)));
        }
    }

    /** Many texts behind one another: nothing of an earlier one is left in a later one. */
    private static void textBehindText() {
        DUE.says("else it is in place of the one ahead:");
        String ifs = "stands = if 1 < 2 then 40 else if 2 < 3 then 50 else 60; writes = if 2 < 1 then 0 else 3;"
            + "marks = if 1 < 2 then 9 else 8; dogs = if 3 < 2 then 1 else 100; least 30; seed 9;";
        String large = "person a 1 1 1; person b 2 1 1; person c 3 1 1; part p 7 1 1; part q 6 1 1; part r 5 1 1; part s 4 1 1;" + ifs;
        String[] small = {"person c 1 1 1; person b 7 1 1; person a 9 1 1; part s 1 1 1; part r 23 1 1;", "person b 1 1 1; part a 12 9 9;",
            "part q 1 1 1; part p 1 1 1;", "person p 5 5 5; person q 5 5 5;", "", "person c 5 1 1; part s 5 1 1; dogs = 91;"};
        for (String text : small) {
            int[] due = Look.at(Due.show(text));
            UnderstudyShow x = new UnderstudyShow();
            for (int i = 0; i < 3; i++) {
                // once, twice, and thrice, so that whatever is used in turns is used for both
                for (int times = 0; times <= i; times++) {
                    Due.put(x, large);
                    DUE.is("read() of the large one", x.read(), GOOD);
                    DUE.is("STANDS", x.tells(2, 3, 0), 40);
                    x.given(-1);
                    x.days(1);
                }
                Due.put(x, text);
                DUE.is("read() of " + text, x.read(), GOOD);
                DUE.are("a small text behind a large one: " + text, Look.at(x), due);
            }
        }
    }

    private static void faultBehindFault() {
        DUE.says("A text with a FAULT changes nothing but the tape;");
        String[] faulty = {"marks = ((((((", "person z 1 1 1; part y 1 1 1; marks = 5 * (4 + (3 - (2 /", "least 9; stands = if 1 < 2 then (3",
            "person c 1 1 1; person c 1 1 1;", "part s 1 1 1; least 100;", "marks = 1 + 2 * 3 - (4 + 5) * (6 <"};
        String text = "person a 1 1 1; person b 2 1 1; part p 1 1 1; stands = 50 - (1 + 2 * (3 + which)) * 4 + 30 / (2 + 3); marks = 2 * 3 + 4;";
        int[] due = Look.at(Due.show(text));
        for (String wrong : faulty) {
            UnderstudyShow x = new UnderstudyShow();
            for (int i = 0; i < 12; i++) {
                Due.put(x, wrong);
                DUE.is("read() of " + wrong, x.read() > 0, true);
            }
            Due.put(x, text);
            DUE.is("read() behind faulty ones", x.read(), GOOD);
            DUE.are("a text behind faulty ones: " + wrong, Look.at(x), due);
            Due.put(x, wrong);
            DUE.is("read() of " + wrong, x.read() > 0, true);
            DUE.are("a faulty text behind a good one: " + wrong, Look.at(x), due);
        }
    }

    private static void aNewObject() {
        DUE.says("No PEOPLE, no PARTS.");
        UnderstudyShow x = new UnderstudyShow();
        DUE.is("PEOPLE", x.count(0), 0);
        DUE.is("PARTS", x.count(1), 0);
        DUE.is("person(0, 0)", x.person(0, 0), -1);
        DUE.is("part(0, 0)", x.part(0, 0), -1);
        DUE.are("as if an empty text were read", Look.deep(x), Look.deep(Due.show("")));
    }

    private static void feeding() {
        DUE.says("Twenty bytes, the highest of a first, come behind the tape: how many it has.");
        UnderstudyShow x = new UnderstudyShow();
        // "person abcdefgh 12 3" and " ;" at the front of twenty bytes
        DUE.is("feed", x.feed(0x70657273, 0x6f6e2061, 0x62636465, 0x66676820, 0x31322033), 20);
        DUE.is("feed", x.feed(0x20393b20, 0x20202020, 0x20202020, 0x20202020, 0x20202021), 40);
        DUE.is("back", x.back(1), 39);
        DUE.is("read", x.read(), GOOD);
        DUE.is("HOUR", x.person(0, 0), 12);
        DUE.is("KIND", x.person(0, 1), 3);
        DUE.is("SIZE", x.person(0, 2), 9);
        int[] fours = {0x20202020, 0x20202020, 0x20202020, 0x20202020, 0x20202020};
        for (int at = 0; at < 20; at++) {
            int[] spoiled = fours.clone();
            spoiled[at / 4] |= 0x80 << 24 - at % 4 * 8;
            DUE.is("feed", x.feed(spoiled[0], spoiled[1], spoiled[2], spoiled[3], spoiled[4]), 20);
            DUE.is("read", x.read(), SYNTAX);
            DUE.is("the byte " + at, x.place(), at);
        }
    }

    private static void aFullTape() {
        DUE.says("NONE, and nothing comes, if it would have more than 2,000.");
        int blank = 0x20202020;
        for (int less = 0; less <= 20; less++) {
            UnderstudyShow x = new UnderstudyShow();
            for (int i = 1; i <= 100; i++) {
                DUE.is("feed", x.feed(blank, blank, blank, blank, blank), 20 * i);
            }
            DUE.is("back", x.back(less), 2000 - less);
            int got = x.feed(0x21212121, 0x21212121, 0x21212121, 0x21212121, 0x21212121);
            DUE.is("feed behind " + (2000 - less), got, less == 20 ? 2000 : -1);
            DUE.is("bytes", x.count(8), less == 20 ? 2000 : 2000 - less);
            DUE.is("read", x.read(), less == 20 ? SYNTAX : GOOD);
            DUE.is("place", x.place(), less == 20 ? 1980 : -1);
            DUE.is("feed of an empty tape", x.feed(0, 0, 0, 0, 0), 20);
        }
        UnderstudyShow x = Look.busy();
        for (int i = 0; i < 99; i++) {
            x.feed(blank, blank, blank, blank, blank);
        }
        int[] before = Look.at(x);
        DUE.is("feed of a full tape", x.feed(0, 0, 0, 0, 0), -1);
        DUE.are("nothing comes", Look.at(x), before);
    }

    private static void goingBack() {
        DUE.says("The last n bytes of the tape go: how many it has.");
        UnderstudyShow x = new UnderstudyShow();
        DUE.is("back(0) of an empty tape", x.back(0), 0);
        Due.put(x, "least 1; seed 2; ! least 100");
        DUE.is("back(0)", x.back(0), 28);
        DUE.is("back(3)", x.back(3), 25);
        DUE.is("back(8)", x.back(8), 17);
        Due.put(x, "least 7;");
        DUE.is("bytes", x.count(8), 25);
        DUE.is("read", x.read(), GOOD);
        Due.put(x, "12345");
        DUE.is("back of all", x.back(5), 0);
        DUE.is("read", x.read(), GOOD);
    }

    private static void goingBackTooFar() {
        DUE.says("NONE, and nothing goes, if it has not so many, or n is below 0.");
        DUE.is("of an empty tape", new UnderstudyShow().back(1), -1);
        int[] refused = {21, 22, 2000, 2001, Integer.MAX_VALUE, -1, -20, Integer.MIN_VALUE};
        for (int n : refused) {
            DUE.is("back(" + n + ")", Look.busy().back(n), -1);
            Look.nothingHappens(DUE, "back(" + n + ")", x -> x.back(n));
        }
    }

    private static void reading() {
        DUE.says("The tape, which is empty then, is read: 0, or the number of its FAULT.");
        String[] texts = {"", "seed 1;", "!", people(8), "person a 1 1 1; part a 1 1 1;", "least 100;"};
        int[] faults = {GOOD, GOOD, SYNTAX, ROOM, TWICE, WRONG};
        UnderstudyShow x = new UnderstudyShow();
        for (int i = 0; i < texts.length; i++) {
            Due.put(x, texts[i]);
            DUE.is("read() of " + texts[i], x.read(), faults[i]);
            DUE.is("bytes", x.count(8), 0);
            DUE.is("read() of an empty tape", x.read(), GOOD);
        }
    }

    private static void thePlace() {
        DUE.says("The byte of the latest read()'s FAULT; NONE without.");
        UnderstudyShow x = new UnderstudyShow();
        DUE.is("place() ahead of any read", x.place(), -1);
        Due.put(x, "  !");
        DUE.is("place() with a tape not read", x.place(), -1);
        x.read();
        DUE.is("place()", x.place(), 2);
        DUE.is("place() once more", x.place(), 2);
        Due.put(x, " least 100;");
        DUE.is("place() of the latest", x.place(), 2);
        x.read();
        DUE.is("place() of the next", x.place(), 7);
        x.days(1);
        x.undo();
        DUE.is("place() stays", x.place(), 7);
        x.read();
        DUE.is("place() without", x.place(), -1);
        Due.put(x, "!");
        x.read();
        DUE.is("place() 0", x.place(), 0);
        Due.put(x, "person a 1 1 1;");
        x.read();
        DUE.is("place() without", x.place(), -1);
    }

    public static void main(String[] args) {
        theLastOfTheCalls();
        texts();
        blanks();
        names();
        namesAreToldApart();
        ints();
        signs();
        tells();
        kindsOfTells();
        shapesOfLaws();
        everyWordElsewhere();
        howManyOfASort();
        numbersOfFigures();
        wrongNumbers();
        lawsIfNotTold();
        leastAndSeed();
        theFirstFault();
        theFourHundredFirst();
        theFourHundredFirstAnywhere();
        theFifthIf();
        theSeventhBracket();
        twice();
        aFaultChangesNothing();
        aTextIsInPlaceOfTheOneAhead();
        textBehindText();
        faultBehindFault();
        aNewObject();
        feeding();
        aFullTape();
        goingBack();
        goingBackTooFar();
        reading();
        thePlace();
        DUE.end();
    }
}
