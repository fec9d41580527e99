/** Promises 1 to 5: a new object, the tape, texts and their FAULTS. */
public final class TextTest {
    private static final Due DUE = new Due("TextTest");
    private static final String[] WORDS = {"person", "part", "stands", "writes", "marks", "dogs", "least", "seed", "if",
        "then", "else", "apart", "unlike", "odd", "day", "seen", "hour", "kind", "size", "which"};

    private static void text(String text, int fault, int place) {
        UnderstudyShow x = new UnderstudyShow();
        Due.put(x, text);
        DUE.is("4: read() of " + text, x.read(), fault);
        DUE.is("5: place() of " + text, x.place(), place);
        DUE.is("4: count(8) behind " + text, x.count(8), 0);
    }

    private static void good(String text) {
        text(text, 0, -1);
    }

    private static void promise1() {
        UnderstudyShow x = new UnderstudyShow();
        for (int what = 0; what < 14; what++) {
            DUE.is("1: count(" + what + ")", x.count(what), 0);
        }
        DUE.is("1: person(0, 0)", x.person(0, 0), -1);
        DUE.is("1: part(0, 0)", x.part(0, 0), -1);
        DUE.is("1: place()", x.place(), -1);
        DUE.is("1: undo()", x.undo(), false);
        DUE.is("1: days(0)", x.days(0), 0);
    }

    private static void promise2() {
        UnderstudyShow x = new UnderstudyShow();
        for (int i = 1; i <= 100; i++) {
            DUE.is("2: feed", x.feed(0x20202020, 0x20202020, 0x20202020, 0x20202020, 0x20202020), 20 * i);
        }
        DUE.is("2: feed of a full tape", x.feed(0, 0, 0, 0, 0), -1);
        DUE.is("2: count(8)", x.count(8), 2000);
        x.back(19);
        DUE.is("2: feed of 1981", x.feed(0, 0, 0, 0, 0), -1);
        DUE.is("2: count(8)", x.count(8), 1981);
        x.back(1);
        DUE.is("2: feed of 1980", x.feed(0x20202020, 0x20202020, 0x20202020, 0x20202020, 0x20202020), 2000);
        DUE.is("2: 2000 blanks", x.read(), 0);
        // "seed", the four blanks, "least 12;": the bytes stand in their order, so that least is the wrong one
        DUE.is("2: feed", x.feed(0x73656564, 0x0d0a0920, 0x6c656173, 0x74203132, 0x3b202020), 20);
        DUE.is("2: read", x.read(), 1);
        DUE.is("2: place", x.place(), 8);
        DUE.is("2: feed of high bytes", x.feed(0x20ff2020, 0, 0, 0, 0), 20);
        DUE.is("2: read", x.read(), 1);
        DUE.is("2: place", x.place(), 1);
    }

    private static void promise3() {
        UnderstudyShow x = new UnderstudyShow();
        DUE.is("3: back(0)", x.back(0), 0);
        DUE.is("3: back(1)", x.back(1), -1);
        x.feed(1, 2, 3, 4, 5);
        DUE.is("3: back(-1)", x.back(-1), -1);
        DUE.is("3: back(min)", x.back(Integer.MIN_VALUE), -1);
        DUE.is("3: back(max)", x.back(Integer.MAX_VALUE), -1);
        DUE.is("3: back(21)", x.back(21), -1);
        DUE.is("3: back(0)", x.back(0), 20);
        DUE.is("3: back(7)", x.back(7), 13);
        DUE.is("3: back(13)", x.back(13), 0);
    }

    private static void tokens() {
        good("");
        good(" \t\n\r ");
        good("person ann 1 2 3;");
        good("person ann1 2 3;part p 0023 9 9;");
        good("person abcdefgh 1 2 3;");
        good("marks=if 1<2then 3else 4;");
        good("person ifx 1 2 3; person thena 1 2 3; person daydayda 1 2 3;");
        text("person abcdefghi 1 2 3;", 1, 7);
        text("personann 1 2 3;", 1, 0);
        text("person ann 12345 2 3;", 1, 11);
        text("person ann 00001 2 3;", 1, 11);
        text("person Ann 1 2 3;", 1, 7);
        text("person a_b 1 2 3;", 1, 8);
        text("seed" + (char) 11 + "1;", 1, 4);
        text("seed" + (char) 0 + "1;", 1, 4);
        text("seed " + (char) 233 + "1;", 1, 5);
        text("seed 10000;", 1, 5);
        for (String word : WORDS) {
            text("person " + word + " 1 2 3;", 1, 7);
            text("part " + word + " 1 2 3;", 1, 5);
        }
    }

    private static void syntax() {
        text("x", 1, 0);
        text(" ;", 1, 1);
        text("person", 1, 6);
        text("person  ", 1, 8);
        text("person ann 1 2 3", 1, 16);
        text("person ann 1 2;", 1, 14);
        text("person ann 1 2 3 4;", 1, 17);
        text("person 1 2 3;", 1, 7);
        text("part p;", 1, 6);
        text("least;", 1, 5);
        text("least ann;", 1, 6);
        text("seed -1;", 1, 5);
        text("seed 1 2;", 1, 7);
        text("apart = 1;", 1, 0);
        text("marks 1;", 1, 6);
        text("marks = ;", 1, 8);
        text("marks = -1;", 1, 8);
        text("marks = 1 + ;", 1, 12);
        text("marks = 1 2;", 1, 10);
        text("marks = 1 < 2;", 1, 10);
        text("marks = ann;", 1, 8);
        text("marks = person;", 1, 8);
        text("marks = (1;", 1, 10);
        text("marks = 1);", 1, 9);
        text("marks = ();", 1, 9);
        text("marks = (1 < 2);", 1, 11);
        text("marks = 1(2);", 1, 9);
        text("marks = if 1 then 2 else 3;", 1, 13);
        text("marks = if 1 < 2 < 3 then 1 else 2;", 1, 17);
        text("marks = if 1 < 2 then 3;", 1, 23);
        text("marks = if 1 < 2 then if 1 < 2 then 1 else 2 else 3;", 1, 22);
        text("marks = (if 1 < 2 then 1 else 2);", 1, 9);
        text("marks = 1 + if 1 < 2 then 1 else 2;", 1, 12);
        text("marks = if 1 < 2 else 1;", 1, 17);
        text("marks = else 1;", 1, 8);
        text("marks = 1", 1, 9);
        good("stands=apart*(unlike+odd)/day-seen;writes=hour;marks=kind+size;dogs=which;least 0;seed 0;");
    }

    private static String people(int n) {
        StringBuilder text = new StringBuilder();
        for (int i = 0; i < n; i++) {
            text.append("person ").append((char) ('a' + i)).append(" 1 1 1;");
        }
        return text.toString();
    }

    private static String parts(int n) {
        StringBuilder text = new StringBuilder();
        for (int i = 0; i < n; i++) {
            text.append("part ").append((char) ('p' + i)).append(" 1 1 1;");
        }
        return text.toString();
    }

    private static void room() {
        good(people(7) + parts(6));
        text(people(8), 2, 7 * 15);
        text(people(7) + "person", 2, 7 * 15);
        text(people(7) + " persons", 1, 7 * 15 + 1);
        text(parts(7), 2, 6 * 13);
        text(parts(6) + people(7) + "  part !", 2, 6 * 13 + 7 * 15 + 2);
        String oneIf = "if 1 < 2 then 3 else ";
        good("marks = " + oneIf.repeat(4) + "5;" + "dogs = " + oneIf.repeat(4) + "5;");
        text("marks = " + oneIf.repeat(5) + "5;", 2, 8 + 4 * 21);
        good("marks = " + "(".repeat(6) + "1" + ")".repeat(6) + " + " + "(".repeat(6) + "1" + ")".repeat(6) + ";");
        text("marks = " + "(".repeat(7) + "1" + ")".repeat(7) + ";", 2, 14);
        text("marks = 2 * ((1 + (((((", 2, 8 + 4 + 2 + 4 + 4);
        text("marks = ((((((1(", 1, 15);
        String four = "marks=1;".repeat(100);
        good(four);
        text(four + "marks", 2, 800);
        text(four + " person", 2, 801);
        text(four + "x", 1, 800);
        text(four + "!", 1, 800);
        text(four + "longlonglong", 1, 800);
        good(four + "   ");
        String three = "seed 1;".repeat(133);
        text(three + "seed 1;", 2, 133 * 7 + 5);
        text(three + "seed x", 1, 133 * 7 + 5);
        text(three + "seed", 1, 133 * 7 + 4);
        good("stands = 1" + "+1".repeat(198) + ";");
        text("stands = 1" + "+1".repeat(199) + ";", 2, 10 + 2 * 198 + 1);
        text("stands = 1" + "+1".repeat(198) + "+", 1, 10 + 2 * 198 + 1);
    }

    private static void twiceAndWrong() {
        text("person a 1 1 1; person a 1 1 1;", 3, 23);
        text("person a 1 1 1; part a 1 1 1;", 3, 21);
        text("part a 1 1 1; part b 1 1 1; part a 1 1 1;", 3, 33);
        text("part a 1 1 1; person a 1 1 1;", 3, 21);
        text("person a 24 1 1;", 5, 9);
        text("person a 1 10 1;", 5, 11);
        text("person a 1 1 10;", 5, 13);
        text("part a 24 1 1;", 5, 7);
        text("part a 1 10 1;", 5, 9);
        text("part a 1 1 10;", 5, 11);
        good("person a 23 9 9; part b 0 0 0;");
        good("least 99; seed 9999; least 0; marks = 9999;");
        text("least 100;", 5, 6);
        text("least 100; least 1;", 5, 6);
        text("person a 1 1 1; person a 24 1 1;", 3, 23);
        text("person a 24 1 1; person a 1 1 1;", 5, 9);
        text("person a 24 1 1; x", 1, 17);
        text("person a 24 1 1; person a 1 1 1; least", 1, 38);
        text("least 100;" + people(8), 2, 10 + 7 * 15);
    }

    private static void whatAReadChanges() {
        String text = "person a 5 1 1; part p 5 1 1; stands = 40; marks = 7; writes = 1; dogs = 100; least 3; seed 4;";
        UnderstudyShow x = Due.show(text);
        x.hold(1);
        x.days(2);
        x.keepOff(0, true);
        x.tell(0, 40, true);
        Due.put(x, "person b 1 1 1; person b 1 1 1;");
        DUE.is("4: read of a fault", x.read(), 3);
        DUE.is("4: nothing changes, people", x.count(0), 1);
        DUE.is("4: nothing changes, day", x.count(2), 2);
        DUE.is("4: nothing changes, marks", x.person(0, 3), 14);
        DUE.is("4: nothing changes, off", x.count(6), 1);
        DUE.is("4: nothing changes, dogs", x.count(7), 2);
        DUE.is("4: nothing changes, undo", x.count(9), 2);
        DUE.is("4: nothing changes, told", x.count(10), 1);
        DUE.is("4: nothing changes, slots", x.count(11), 1);
        DUE.is("4: nothing changes, law", x.tells(0, 0, 0), 40);
        DUE.is("5: place", x.place(), 23);
        Due.put(x, "person a 5 2 2; part p 6 2 2;");
        DUE.is("4: read", x.read(), 0);
        DUE.is("5: place", x.place(), -1);
        int[] want = {1, 1, 0, 1, 9, 0, 0, 0, 0, 0, 0, 0, 0, 1};
        for (int what = 0; what < 14; what++) {
            DUE.is("4: anew, count(" + what + ")", x.count(what), want[what]);
        }
        DUE.is("4: nobody seen", x.tells(0, 0, 3), 0);
        DUE.is("4: STANDS if not told", x.tells(0, 0, 0), 9);
        DUE.is("4: WRITES if not told", x.tells(0, 0, 1), 0);
        DUE.is("4: MARKS if not told", x.tells(0, 0, 2), 1);
        DUE.is("4: DOGS if not told", x.part(0, 5), 0);
        DUE.is("4: undo", x.undo(), false);
        DUE.is("4: restore", x.restore(1), false);
        x.move(0, 15);
        DUE.is("4: LEAST if not told: 1 is enough", x.empty(), 0);
        x.move(0, 16);
        DUE.is("4: LEAST if not told: 0 is not", x.empty(), 1);
        Due.put(x, "");
        DUE.is("4: an empty text", x.read(), 0);
        DUE.is("4: no people", x.count(0), 0);
        DUE.is("4: no parts", x.count(1), 0);
    }

    private static void everyReadBeginsAnew() {
        UnderstudyShow x = new UnderstudyShow();
        // an object is used for 512 calls at most
        for (int i = 0; i < 12; i++) {
            Due.put(x, "person a 5 1 1; part p 5 1 1; stands = 40; marks = 7; writes = 1; dogs = 99; least 9; seed 4;");
            DUE.is("4: all told", x.read(), 0);
            x.hold(0);
            x.days(1 + i % 3);
            x.tell(0, 1, true);
            if (i % 2 == 0) {
                Due.put(x, "least 100;");
                DUE.is("4: a fault", x.read(), 5);
            }
            Due.put(x, "person a 5 1 1; person b 15 1 1; part p 5 1 1; part q 5 1 1;");
            DUE.is("4: nothing told", x.read(), 0);
            DUE.is("4: STANDS if not told", x.tells(0, 0, 0), 10);
            DUE.is("4: WRITES if not told", x.tells(0, 0, 1), 0);
            DUE.is("4: MARKS if not told", x.tells(0, 0, 2), 1);
            DUE.is("4: DOGS if not told", x.part(0, 5), 0);
            DUE.is("4: LEAST if not told", x.empty(), 2);
            x.move(1, 6);
            DUE.is("4: LEAST if not told", x.empty(), 0);
            DUE.is("4: no slot", x.count(11), 0);
            DUE.is("4: nothing TOLD", x.count(10), 0);
        }
        // the LOT of SEED 0 on the first day is 90, of SEED 9 it is 97
        for (int i = 0; i < 3; i++) {
            Due.put(x, "person a 5 1 1; part p 5 1 1; dogs = 95; seed 9;");
            x.read();
            DUE.is("4: SEED told", x.then(0, 1, 0), 5);
            Due.put(x, "person a 5 1 1; part p 5 1 1; dogs = 95;");
            x.read();
            DUE.is("4: SEED if not told", x.then(0, 1, 0), 6);
        }
    }

    private static void theLastOneCounts() {
        UnderstudyShow x = Due.show("person a 5 1 1; part p 5 1 1; marks = 3; marks = if 1 < 2 then 4 else 5; stands = 9;"
            + "least 50; least 9; seed 3; marks = 6; writes = 3; dogs = 5; seed 0; stands = 8; dogs = 6;");
        DUE.is("4: marks", x.tells(0, 0, 2), 6);
        DUE.is("4: stands", x.tells(0, 0, 0), 8);
        DUE.is("4: writes", x.tells(0, 0, 1), 3);
        DUE.is("4: least", x.empty(), 1);
        Due.put(x, "person a 5 1 1; part p 5 1 1; stands = 9; least 50; least 9;");
        x.read();
        DUE.is("4: least", x.empty(), 0);
    }

    public static void main(String[] args) {
        promise1();
        promise2();
        promise3();
        tokens();
        syntax();
        room();
        twiceAndWrong();
        whatAReadChanges();
        everyReadBeginsAnew();
        theLastOneCounts();
        DUE.end();
    }
}
