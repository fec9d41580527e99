/** Promises 6 to 13: how it is now, things done by hand, DAYS, and all undone. */
public final class NowTest {
    private static final Due DUE = new Due("NowTest");
    private static final String THREE = "person ann 8 2 3; person bob 9 2 5; person cid 12 7 3;"
        + "part coach 8 2 4; part guard 10 3 5; part gog 20 9 9; writes = 1; marks = 1 + which; least 4;";

    private static void promise6() {
        UnderstudyShow x = Due.show(THREE);
        int[][] want = {{8, 2, 3, 0, 0, 0, 0}, {9, 2, 5, 0, 0, 1, 0}, {12, 7, 3, 0, 0, -2, 0}};
        for (int person = 0; person < 3; person++) {
            for (int what = 0; what < 7; what++) {
                DUE.is("6: person(" + person + ", " + what + ")", x.person(person, what), want[person][what]);
            }
        }
        int[][] wrong = {{3, 0}, {-1, 0}, {0, 7}, {0, -1}, {7, 0}, {Integer.MAX_VALUE, 0}, {0, Integer.MIN_VALUE}};
        for (int[] pair : wrong) {
            DUE.is("6: person(" + pair[0] + ", " + pair[1] + ")", x.person(pair[0], pair[1]), -1);
        }
        x.days(3);
        x.keepOff(1, true);
        x.days(1);
        x.move(1, 23);
        DUE.is("6: HOUR moved", x.person(1, 0), 23);
        DUE.is("6: MARKS", x.person(1, 3), 6);
        DUE.is("6: MARKS", x.person(0, 3), 4);
        DUE.is("6: kept off", x.person(1, 4), 1);
        DUE.is("6: CAST as nothing", x.person(1, 5), -2);
        DUE.is("6: seen", x.person(1, 6), 3);
        DUE.is("6: seen", x.person(0, 6), 4);
        seenAsAnyPart();
    }

    private static void seenAsAnyPart() {
        UnderstudyShow x = Due.show("person a 5 1 1; person b 5 1 1; part p 5 1 1; part q 5 1 1;");
        x.days(2);
        x.keepOff(0, true);
        x.days(3);
        DUE.is("6: b seen as q twice and as p three times", x.person(1, 6), 5);
    }

    private static void promise7() {
        UnderstudyShow x = Due.show(THREE + "dogs = 20 + hour;");
        int[][] want = {{8, 2, 4, 0, 8, 28}, {10, 3, 5, 1, 10, 29}, {20, 9, 9, -2, 20, 0}};
        for (int part = 0; part < 3; part++) {
            for (int what = 0; what < 6; what++) {
                DUE.is("7: part(" + part + ", " + what + ")", x.part(part, what), want[part][what]);
            }
        }
        int[][] wrong = {{3, 0}, {-1, 0}, {0, 6}, {0, -1}, {6, 0}, {Integer.MIN_VALUE, 0}, {0, Integer.MAX_VALUE}};
        for (int[] pair : wrong) {
            DUE.is("7: part(" + pair[0] + ", " + pair[1] + ")", x.part(pair[0], pair[1]), -1);
        }
        x.write(2, 3);
        DUE.is("7: HOUR", x.part(2, 0), 3);
        DUE.is("7: HOUR as told", x.part(2, 4), 20);
        DUE.is("7: DOGS are held to 100", Due.show("person a 1 1 1; part p 1 1 1; dogs = 101;").part(0, 5), 100);
        DUE.is("7: DOGS are held to 0", Due.show("person a 1 1 1; part p 1 1 1; dogs = 0 - 1;").part(0, 5), 0);
    }

    private static void promise8() {
        UnderstudyShow x = Due.show(THREE);
        int[][] stands = {{9, 5, 0}, {8, 8, 0}, {0, 2, 0}};
        int[][] apart = {{0, 2, 12}, {1, 1, 11}, {4, 2, 8}};
        for (int person = 0; person < 3; person++) {
            for (int part = 0; part < 3; part++) {
                DUE.is("8: STANDS", x.tells(person, part, 0), stands[person][part]);
                DUE.is("8: WRITES", x.tells(person, part, 1), 1);
                DUE.is("8: MARKS", x.tells(person, part, 2), 1 + part);
                DUE.is("8: seen", x.tells(person, part, 3), 0);
                DUE.is("8: apart", x.tells(person, part, 4), apart[person][part]);
            }
        }
        int[][] wrong = {{3, 0, 0}, {-1, 0, 0}, {0, 3, 0}, {0, -1, 0}, {0, 0, 5}, {0, 0, -1}};
        for (int[] three : wrong) {
            DUE.is("8: wrong ones", x.tells(three[0], three[1], three[2]), -1);
        }
        x.days(2);
        DUE.is("8: seen", x.tells(0, 0, 3), 2);
        DUE.is("8: seen", x.tells(1, 1, 3), 2);
        DUE.is("8: seen", x.tells(0, 1, 3), 0);
        x.keepOff(0, true);
        DUE.is("8: one kept off STANDS all the same", x.tells(0, 0, 0), 9);
        DUE.is("8: round the day", Due.show("person a 23 1 1; part p 2 1 1;").tells(0, 0, 4), 3);
    }

    private static void law(String law, int want) {
        UnderstudyShow x = Due.show("person a 22 7 1; part o 0 0 0; part q 3 2 5; marks = " + law + ";");
        DUE.is("8: MARKS of the law " + law, x.tells(0, 1, 2), want);
    }

    private static void laws() {
        law("apart", 5);
        law("unlike", 5);
        law("odd", 4);
        law("day", 0);
        law("seen", 0);
        law("hour", 22);
        law("kind", 7);
        law("size", 1);
        law("which", 1);
        law("2 + 3 * 4", 14);
        law("(2 + 3) * 4", 20);
        law("20 - 5 - 3", 12);
        law("20 - (5 - 3)", 18);
        law("40 / 4 / 2", 5);
        law("40 / (4 / 2)", 20);
        law("2 * 7 / 3", 4);
        law("2 * (7 / 3)", 4);
        law("7 / 3 * 2", 4);
        law("1 + 2 * 3 - 4 / 2 + 5", 10);
        law("10 + (0 - 7) / 2", 7);
        law("((((((9))))))", 9);
        law("99", 99);
        law("100", 99);
        law("9999 * 9", 99);
        law("0 - 1", 0);
        law("5 + 256 * 256 * 256 * 256", 5);
        law("if 256 * 256 * 256 * 128 < 0 then 7 else 3", 7);
        law("if 256 * 256 * 256 * 128 / (0 - 1) < 0 then 7 else 3", 7);
        law("if 256 * 256 * 256 * 128 - 1 < 0 then 7 else 3", 3);
        law("5 / 0", 0);
        law("7 + 1 / (size - 1)", 0);
        law("0 * (1 / 0) + 4", 0);
        law("if 1 < 2 then 4 else 1 / 0", 4);
        law("if 2 < 1 then 1 / 0 else 4", 4);
        law("if 1 / 0 < 1 then 4 else 5", 0);
        law("if 0 < 1 / 0 then 4 else 5", 0);
        law("if 1 < 2 then 1 / 0 else 5", 0);
        law("if 1 < 2 then 4 else if 1 / 0 < 1 then 1 else 2", 4);
        law("if 2 < 2 then 4 else 5", 5);
        law("if 1 < 2 then 4 else if 1 < 2 then 5 else 6", 4);
        law("if 2 < 1 then 4 else if 1 < 2 then 5 else 6", 5);
        law("if 2 < 1 then 4 else if 2 < 1 then 5 else 6", 6);
        law("if 2 < 1 then 1 else if 2 < 1 then 2 else if 2 < 1 then 3 else if apart - 1 < odd + 1 then 44 else 5", 44);
        law("if 2 < 1 then 1 else if 2 < 1 then 2 else if 2 < 1 then 3 else if 2 < 1 then 44 else 55", 55);
        UnderstudyShow x = Due.show("person a 22 1 1; part p 22 1 1; stands = 200; writes = 200; marks = 10 * day + seen;");
        x.days(3);
        DUE.is("8: STANDS held", x.tells(0, 0, 0), 99);
        DUE.is("8: WRITES held", x.tells(0, 0, 1), 99);
        DUE.is("8: day and seen", x.tells(0, 0, 2), 33);
        x.keepOff(0, true);
        x.days(1);
        DUE.is("8: day and seen", x.tells(0, 0, 2), 43);
    }

    private static void promise9() {
        UnderstudyShow x = Due.show(THREE);
        int[][] wrong = {{0, 8}, {0, 24}, {0, -1}, {3, 1}, {-1, 1}, {7, 1}, {Integer.MAX_VALUE, 1}};
        for (int[] pair : wrong) {
            DUE.is("9: move(" + pair[0] + ", " + pair[1] + ")", x.move(pair[0], pair[1]), false);
        }
        DUE.is("9: nothing happens", x.count(9), 0);
        DUE.is("9: move(0, 23)", x.move(0, 23), true);
        DUE.is("9: HOUR", x.person(0, 0), 23);
        DUE.is("9: others", x.person(1, 0), 9);
        DUE.is("9: PARTS", x.part(0, 0), 8);
        DUE.is("9: move(0, 0)", x.move(0, 0), true);
        DUE.is("9: HOUR", x.person(0, 0), 0);
        DUE.is("9: CAST by it", x.part(0, 3), 1);
        DUE.is("9: things done", x.count(9), 2);
    }

    private static void promise10() {
        UnderstudyShow x = Due.show(THREE);
        int[][] wrong = {{0, 8}, {0, 24}, {0, -1}, {3, 1}, {-1, 1}, {6, 1}, {Integer.MIN_VALUE, 1}};
        for (int[] pair : wrong) {
            DUE.is("10: write(" + pair[0] + ", " + pair[1] + ")", x.write(pair[0], pair[1]), false);
        }
        DUE.is("10: nothing happens", x.count(9), 0);
        DUE.is("10: write(1, 23)", x.write(1, 23), true);
        DUE.is("10: HOUR", x.part(1, 0), 23);
        DUE.is("10: people", x.person(1, 0), 9);
        DUE.is("10: write(1, 0)", x.write(1, 0), true);
        DUE.is("10: HOUR", x.part(1, 0), 0);
        DUE.is("10: CAST by it", x.part(1, 3), -2);
    }

    private static void promise11() {
        UnderstudyShow x = Due.show(THREE);
        DUE.is("11: it is so", x.keepOff(0, false), false);
        DUE.is("11: no such one", x.keepOff(3, true), false);
        DUE.is("11: no such one", x.keepOff(-1, true), false);
        DUE.is("11: no such one", x.keepOff(33, true), false);
        DUE.is("11: nothing happens", x.count(9), 0);
        DUE.is("11: keepOff(0, true)", x.keepOff(0, true), true);
        DUE.is("11: it is so", x.keepOff(0, true), false);
        DUE.is("11: CAST without", x.part(0, 3), 1);
        DUE.is("11: keepOff(2, true)", x.keepOff(2, true), true);
        DUE.is("11: bits", x.count(6), 5);
        DUE.is("11: keepOff(0, false)", x.keepOff(0, false), true);
        DUE.is("11: bits", x.count(6), 4);
        DUE.is("11: CAST again", x.part(0, 3), 0);
        DUE.is("11: things done", x.count(9), 3);
    }

    private static void goes(int person, int part, int days, int want) {
        UnderstudyShow x = Due.show("person a " + person + " 1 1; part p " + part + " 1 1; stands = 50; writes = 1;");
        x.days(days);
        DUE.is("12: a PART at " + part + " goes to " + person + " for " + days + " days", x.part(0, 0), want);
    }

    private static void promise12() {
        UnderstudyShow x = Due.show(THREE);
        DUE.is("12: days(-1)", x.days(-1), -1);
        DUE.is("12: days(61)", x.days(61), -1);
        DUE.is("12: days(max)", x.days(Integer.MAX_VALUE), -1);
        DUE.is("12: days(0)", x.days(0), 0);
        DUE.is("12: no thing done", x.count(9), 0);
        DUE.is("12: days(60)", x.days(60), 60);
        DUE.is("12: days(5)", x.days(5), 65);
        DUE.is("12: days(0)", x.days(0), 65);
        DUE.is("12: things done", x.count(9), 2);
        DUE.is("12: MARKS", x.person(1, 3), 130);
        goes(6, 3, 1, 4);
        goes(6, 3, 3, 6);
        goes(6, 3, 9, 6);
        goes(3, 6, 2, 4);
        goes(22, 1, 2, 23);
        goes(1, 22, 2, 0);
        goes(12, 0, 1, 1);
        goes(11, 23, 1, 0);
        goes(0, 12, 1, 13);
        goes(13, 0, 1, 23);
        goes(11, 0, 1, 1);
        goes(5, 5, 1, 5);
        x = Due.show("person a 6 1 1; part p 3 1 1; stands = 50;");
        x.days(5);
        DUE.is("12: nothing is written", x.part(0, 0), 3);
        castOfADay();
        byHowItBegan();
        mostMarks();
    }

    private static void castOfADay() {
        UnderstudyShow x = Due.show("person a 5 1 1; person b 5 1 1; person c 4 1 1; part p 4 1 1; part q 5 1 1; part r 9 1 1;"
            + "least 9;");
        DUE.is("12: the one by most", x.part(0, 3), 2);
        DUE.is("12: of alike ones the first", x.part(1, 3), 0);
        DUE.is("12: nobody by LEAST", x.part(2, 3), -2);
        x.keepOff(0, true);
        DUE.is("12: not one kept off", x.part(1, 3), 1);
        x.write(2, 5);
        DUE.is("12: no other PART yet", x.part(2, 3), -2);
        x.keepOff(0, false);
        DUE.is("12: PART by PART", x.part(2, 3), 1);
        x = Due.show("person a 5 1 1; part p 5 1 1; part q 5 1 1; stands = which; least 0;");
        DUE.is("12: LEAST 0 takes one who STANDS by 0", x.part(0, 3), 0);
        DUE.is("12: and then there is none", x.part(1, 3), -2);
    }

    private static void byHowItBegan() {
        UnderstudyShow x = Due.show("person a 5 1 1; part p 4 1 1; stands = 50; writes = 1; marks = 10 * seen + day + 1;"
            + "dogs = if apart < 1 then 100 else 0;");
        x.days(1);
        DUE.is("12: no DOG, by how it began", x.part(0, 0), 5);
        DUE.is("12: MARKS, by how it began", x.person(0, 3), 1);
        x.days(1);
        DUE.is("12: a DOG", x.part(0, 0), 6);
        DUE.is("12: MARKS", x.person(0, 3), 13);
        x.days(1);
        DUE.is("12: back again", x.part(0, 0), 5);
        DUE.is("12: DOGS", x.count(7), 1);
    }

    private static void mostMarks() {
        UnderstudyShow x = Due.show("person a 5 1 1; person b 5 1 1; part p 5 1 1; marks = 99;");
        for (int i = 0; i < 168; i++) {
            x.days(60);
        }
        DUE.is("12: MARKS below the most", x.person(0, 3), 168 * 60 * 99);
        x.days(21);
        DUE.is("12: MARKS at the last below", x.person(0, 3), 999999);
        x.days(60);
        DUE.is("12: MARKS at most", x.person(0, 3), 999999);
        DUE.is("12: of each one", x.person(1, 3), 0);
        DUE.is("34: nothing more", x.star(5, 1), 0);
    }

    private static void dogs() {
        // LOT 100 of SEED 0: 90 37 1 16 84 22 63 98 82 40 33 15 for the first PART's first days
        UnderstudyShow x = Due.show("person a 6 1 1; part p 6 1 1; stands = 50; dogs = 37;");
        x.days(2);
        DUE.is("12: DOGS in 2 days", x.count(7), 0);
        x.days(1);
        DUE.is("12: DOGS in 3 days", x.count(7), 1);
        x.days(9);
        DUE.is("12: DOGS in 12 days", x.count(7), 5);
        DUE.is("12: HOUR", x.part(0, 0), 11);
        x.undo();
        DUE.is("13: DOGS undone", x.count(7), 1);
        DUE.is("13: HOUR undone", x.part(0, 0), 7);
        // of SEED 7: 81 62 98 19 7 12 88 57 69 35 78 12, and 51 49 14 44 84 59 47 42 30 69 97 20 for the second PART
        x = Due.show("person a 6 1 1; person b 6 1 1; part p 6 1 1; part q 23 1 1; stands = 50; dogs = 15; seed 7;");
        x.days(12);
        DUE.is("12: DOGS of two", x.count(7), 4);
        DUE.is("12: the first PART", x.part(0, 0), 9);
        DUE.is("12: the second PART", x.part(1, 0), 0);
        x = Due.show("person a 6 1 1; part p 6 1 1; part q 6 1 1; stands = 50; dogs = 100;");
        x.days(3);
        DUE.is("12: no DOG of nobody", x.count(7), 3);
        DUE.is("12: no DOG of nobody", x.part(1, 0), 6);
    }

    private static void promise13() {
        UnderstudyShow x = Due.show(THREE);
        DUE.is("13: nothing to undo", x.undo(), false);
        x.move(0, 1);
        x.write(0, 2);
        x.keepOff(1, true);
        x.days(4);
        DUE.is("13: things", x.count(9), 4);
        DUE.is("13: days", x.undo(), true);
        DUE.is("13: the day", x.count(2), 0);
        DUE.is("13: MARKS", x.count(5), 0);
        DUE.is("13: seen", x.person(0, 6) + x.person(1, 6) + x.person(2, 6), 0);
        DUE.is("13: still kept off", x.count(6), 2);
        DUE.is("13: keepOff", x.undo(), true);
        DUE.is("13: not kept off", x.count(6), 0);
        DUE.is("13: write", x.undo(), true);
        DUE.is("13: HOUR", x.part(0, 0), 8);
        DUE.is("13: still moved", x.person(0, 0), 1);
        DUE.is("13: move", x.undo(), true);
        DUE.is("13: HOUR", x.person(0, 0), 8);
        DUE.is("13: no more", x.undo(), false);
        theLastForty();
    }

    private static void theLastForty() {
        UnderstudyShow x = Due.show("person a 0 1 1;");
        for (int i = 1; i <= 43; i++) {
            x.move(0, i % 24);
            DUE.is("13: things", x.count(9), Math.min(40, i));
        }
        for (int i = 42; i >= 3; i--) {
            DUE.is("13: undo", x.undo(), true);
            DUE.is("13: HOUR", x.person(0, 0), i % 24);
            DUE.is("13: things", x.count(9), i - 3);
        }
        DUE.is("13: the last 40", x.undo(), false);
        DUE.is("13: HOUR", x.person(0, 0), 3);
        x.move(0, 20);
        DUE.is("13: one more", x.undo(), true);
        DUE.is("13: HOUR", x.person(0, 0), 3);
        DUE.is("13: and that is all", x.undo(), false);
    }

    public static void main(String[] args) {
        promise6();
        promise7();
        promise8();
        laws();
        promise9();
        promise10();
        promise11();
        promise12();
        dogs();
        promise13();
        DUE.end();
    }
}
