/** Promises 21 to 35: what would be. */
public final class SupposeTest {
    private static final Due DUE = new Due("SupposeTest");
    private static final String THREE = "person ann 8 2 3; person bob 9 2 5; person cid 12 7 3;"
        + "part coach 8 2 4; part guard 10 3 5; part gog 20 9 9; writes = 1; marks = 1 + which; least 4;";
    private static final String ALIKE = "person a 5 1 1; person b 5 1 1; person c 5 1 1; part p 5 1 1; part q 5 1 1;";
    /** The PART goes to a on even days, to b on odd ones, from 6 to 5 and back. */
    private static final String TO_AND_FRO = "person a 0 1 1; person b 12 1 1; part p 6 1 1;"
        + "stands = 50 + (day - day / 2 * 2) * (hour * 2 - 12);";
    private static final String WALK = "person a 6 1 1; part p 3 1 1; part q 5 1 1; stands = 50; writes = 1; dogs = 100;";

    private static void promise21() {
        UnderstudyShow x = Due.show("person a 10 1 1; person b 3 1 1; part p 12 1 1;");
        DUE.is("21: hour", x.bestHour(0, 0), 12);
        DUE.is("21: how much", x.bestHour(0, 1), 10);
        x.keepOff(0, true);
        DUE.is("21: one kept off stays", x.bestHour(0, 0), 10);
        DUE.is("21: how much", x.bestHour(0, 1), 1);
        DUE.is("21: nothing happens", x.person(0, 0), 10);
        x = Due.show("person a 10 1 1; part p 12 1 1; stands = 5;");
        DUE.is("21: the nearest is theirs", x.bestHour(0, 0), 10);
        x = Due.show("person a 0 1 1; part p 0 1 1; stands = if apart < 1 then 0 else 9;");
        DUE.is("21: 1 and 23 are as near, 1 is the lowest", x.bestHour(0, 0), 1);
        x = Due.show("person a 2 1 1; part p 2 1 1; stands = if apart < 5 then 0 else if apart < 6 then 9 else 4;");
        DUE.is("21: 7 and 21", x.bestHour(0, 0), 7);
        x = Due.show("person a 22 1 1; part p 3 1 1; stands = if apart < 2 then 9 else 1;");
        DUE.is("21: round midnight", x.bestHour(0, 0), 2);
        x = Due.show("person a 5 1 1; person b 5 1 1; part p 5 1 1; part q 9 1 1; stands = 9 - apart * 2;");
        DUE.is("21: by all that are CAST", x.bestHour(0, 0), 9);
        DUE.is("21: how much", x.bestHour(0, 1), 18);
        DUE.is("21: nobody can", Due.show("person a 5 1 1;").bestHour(0, 0), 5);
        DUE.is("21: nobody can", Due.show("person a 5 1 1;").bestHour(0, 1), 0);
        int[][] wrong = {{2, 0}, {-1, 0}, {0, 2}, {0, -1}};
        for (int[] pair : wrong) {
            DUE.is("21: wrong ones", x.bestHour(pair[0], pair[1]), -1);
        }
    }

    private static void promise22() {
        UnderstudyShow x = Due.show("person a 12 1 1; person b 3 5 1; part p 12 1 1; part q 3 5 1;");
        DUE.is("22: trade", x.trade(0, 1), -8);
        DUE.is("22: trade", x.trade(1, 0), -8);
        DUE.is("22: nothing happens", x.person(0, 0), 12);
        x.move(0, 3);
        DUE.is("22: no change", x.trade(0, 1), 0);
        x.move(1, 12);
        DUE.is("22: the other way", x.trade(0, 1), 8);
        x.keepOff(0, true);
        x.move(1, 20);
        x.write(1, 20);
        // b alone is CAST, by 10 as q; at a's hour by 3 - 20
        DUE.is("22: with one kept off", x.trade(0, 1), -7);
        int[][] wrong = {{0, 0}, {1, 1}, {2, 0}, {0, 2}, {-1, 0}, {0, -1}, {5, 5}};
        for (int[] pair : wrong) {
            DUE.is("22: wrong ones", x.trade(pair[0], pair[1]), -100000);
        }
    }

    private static void promise23() {
        DUE.is("23: two keys", Due.show(THREE).key(), 3);
        UnderstudyShow x = Due.show(ALIKE);
        DUE.is("23: none", x.key(), 0);
        x.keepOff(1, true);
        DUE.is("23: all but the one kept off", x.key(), 5);
        DUE.is("23: nothing happens", x.count(6), 2);
        DUE.is("23: no PARTS", Due.show("person a 5 1 1;").key(), 0);
        DUE.is("23: who is nothing is no key", Due.show("person a 5 1 1; person b 9 9 9; part p 5 1 1;").key(), 1);
    }

    private static void promise24() {
        UnderstudyShow x = Due.show("person a 7 1 1; person b 5 1 1; part p 5 1 1; part q 7 1 1; part r 9 1 1;");
        DUE.is("24: the first", x.crowd(0), 5);
        DUE.is("24: how many", x.crowd(1), 2);
        x.write(2, 7);
        x.keepOff(0, true);
        DUE.is("24: hour", x.crowd(0), 7);
        DUE.is("24: how many", x.crowd(1), 3);
        DUE.is("24: the last hour", Due.show("person a 23 1 1;").crowd(0), 23);
        DUE.is("24: nobody", Due.show("").crowd(0), 0);
        DUE.is("24: nobody", Due.show("").crowd(1), 0);
        DUE.is("24: wrong", x.crowd(2), -1);
        DUE.is("24: wrong", x.crowd(-1), -1);
    }

    private static void promises25And26() {
        UnderstudyShow x = Due.show("person a 5 1 1; person b 5 1 1; part p 5 1 1; part q 5 1 1;");
        DUE.is("25: never", x.habit(0, 0), -2);
        DUE.is("25: never", x.habit(0, 1), -2);
        DUE.is("26: nobody yet", x.regular(0, 0), -2);
        DUE.is("26: nobody yet", x.regular(0, 1), -2);
        x.days(2);
        DUE.is("25: which", x.habit(1, 0), 1);
        DUE.is("25: how often", x.habit(1, 1), 2);
        x.keepOff(0, true);
        x.days(2);
        DUE.is("25: the first", x.habit(1, 0), 0);
        DUE.is("26: the first", x.regular(0, 0), 0);
        x.days(1);
        DUE.is("25: which", x.habit(1, 0), 0);
        DUE.is("25: how often", x.habit(1, 1), 3);
        DUE.is("26: who", x.regular(0, 0), 1);
        DUE.is("26: how often", x.regular(0, 1), 3);
        DUE.is("26: who", x.regular(1, 0), 1);
        DUE.is("26: how often", x.regular(1, 1), 2);
        DUE.is("25: kept off all the same", x.habit(0, 1), 2);
        int[][] wrong = {{2, 0}, {-1, 0}, {0, 2}, {0, -1}};
        for (int[] pair : wrong) {
            DUE.is("25: wrong ones", x.habit(pair[0], pair[1]), -1);
            DUE.is("26: wrong ones", x.regular(pair[0], pair[1]), -1);
        }
        DUE.is("25: no PARTS", Due.show("person a 5 1 1;").habit(0, 0), -2);
        DUE.is("26: no PEOPLE", Due.show("part a 5 1 1;").regular(0, 0), -2);
    }

    private static void promise27() {
        UnderstudyShow x = Due.show(WALK);
        DUE.is("27: three days, whatever DOGS do", x.settles(), 3);
        DUE.is("27: nothing happens", x.count(2), 0);
        x.move(0, 3);
        DUE.is("27: now", x.settles(), 0);
        DUE.is("27: nothing is written", Due.show("person a 6 1 1; part p 3 1 1;").settles(), 0);
        DUE.is("27: never", Due.show(TO_AND_FRO + "writes = 1;").settles(), -2);
        DUE.is("27: behind 100", Due.show(TO_AND_FRO + "writes = if 99 < day then 0 else 1;").settles(), 100);
        DUE.is("27: behind 101", Due.show(TO_AND_FRO + "writes = if 100 < day then 0 else 1;").settles(), -2);
    }

    private static void promise28() {
        UnderstudyShow x = Due.show(THREE);
        DUE.is("28: who", x.missed(0), 0);
        DUE.is("28: how much is left", x.missed(1), 8);
        x.keepOff(0, true);
        DUE.is("28: of those not kept off", x.missed(0), 1);
        DUE.is("28: how much is left", x.missed(1), 0);
        x.keepOff(1, true);
        DUE.is("28: the last one", x.missed(0), 2);
        x.keepOff(2, true);
        DUE.is("28: nobody", x.missed(0), -2);
        DUE.is("28: nobody", x.missed(1), -2);
        DUE.is("28: wrong", x.missed(2), -1);
        DUE.is("28: wrong", x.missed(-1), -1);
        DUE.is("28: the first", Due.show(ALIKE).missed(0), 0);
        DUE.is("28: less is left without b", Due.show("person a 5 1 1; person b 6 1 1; part p 6 1 1;").missed(0), 1);
    }

    private static void promise29() {
        UnderstudyShow x = Due.show("person a 20 1 1; part p 3 1 1; part q 1 1 1; stands = 50; writes = 1; dogs = 100;");
        DUE.is("29: 1 day", x.drift(0, 1), 1);
        DUE.is("29: 5 days", x.drift(0, 5), 5);
        DUE.is("29: 7 days", x.drift(0, 7), 7);
        DUE.is("29: 60 days", x.drift(0, 60), 7);
        DUE.is("29: nobody's", x.drift(1, 60), 0);
        DUE.is("29: nothing happens", x.part(0, 0), 3);
        x.days(3);
        DUE.is("29: from now", x.drift(0, 1), 1);
        int[][] wrong = {{0, 0}, {0, 61}, {0, -1}, {2, 1}, {-1, 1}};
        for (int[] pair : wrong) {
            DUE.is("29: wrong ones", x.drift(pair[0], pair[1]), -1);
        }
    }

    private static void promise30() {
        UnderstudyShow x = Due.show(WALK);
        DUE.is("30: days", x.meet(0), 2);
        DUE.is("30: the two", x.meet(1), 1);
        x.write(1, 8);
        DUE.is("30: never", x.meet(0), -2);
        DUE.is("30: never", x.meet(1), -2);
        x.write(1, 3);
        DUE.is("30: now", x.meet(0), 0);
        DUE.is("30: wrong", x.meet(2), -1);
        DUE.is("30: wrong", x.meet(-1), -1);
        x = Due.show("part o 1 1 1; part p 3 1 1; part q 5 1 1; part r 5 1 1; part s 3 1 1;");
        DUE.is("30: the first two", x.meet(1), 14);
        x.write(4, 5);
        DUE.is("30: the first two", x.meet(1), 23);
        String late = "person a 6 1 1; part p 3 1 1; part q 4 1 1; stands = 50; writes = if ";
        DUE.is("30: behind 100", Due.show(late + "98 < day then 1 else 0;").meet(0), 100);
        DUE.is("30: behind 101", Due.show(late + "99 < day then 1 else 0;").meet(0), -2);
    }

    private static void promise31() {
        UnderstudyShow x = Due.show(THREE);
        DUE.is("31: none", x.away(), 0);
        x.write(0, 23);
        DUE.is("31: round", x.away(), 9);
        x.write(2, 8);
        DUE.is("31: added", x.away(), 21);
        x.write(1, 11);
        DUE.is("31: added", x.away(), 22);
        x.write(0, 8);
        DUE.is("31: less", x.away(), 13);
    }

    private static void promise32() {
        // DOGS run out on the days 2, 3, 5, 10, 11: see NowTest
        UnderstudyShow x = Due.show("person a 6 1 1; part p 6 1 1; stands = if day < 9 then 9 else 20 - apart * 10; dogs = 37;");
        DUE.is("32: now", x.then(0, 0, 0), 6);
        DUE.is("32: in 3 days", x.then(0, 3, 0), 7);
        DUE.is("32: in 8 days", x.then(0, 8, 0), 9);
        DUE.is("32: who", x.then(0, 8, 1), 0);
        DUE.is("32: nobody", x.then(0, 9, 1), -2);
        DUE.is("32: stays", x.then(0, 60, 0), 9);
        DUE.is("32: now", x.then(0, 0, 1), 0);
        DUE.is("32: nothing happens", x.count(2) + x.count(7), 0);
        int[][] wrong = {{1, 1, 0}, {-1, 1, 0}, {0, -1, 0}, {0, 61, 0}, {0, 1, 2}, {0, 1, -1}};
        for (int[] three : wrong) {
            DUE.is("32: wrong ones", x.then(three[0], three[1], three[2]), -1);
        }
    }

    private static void promises33And34() {
        UnderstudyShow x = Due.show("person a 6 1 1; person b 6 1 1; part p 6 1 1; stands = 50; marks = apart; dogs = 100;");
        DUE.is("33: now", x.marksIn(0, 0), 0);
        DUE.is("33: in 3 days, with DOGS", x.marksIn(0, 3), 3);
        DUE.is("33: another", x.marksIn(1, 60), 0);
        DUE.is("34: how much more, without DOGS", x.star(3, 1), 0);
        x.days(4);
        DUE.is("33: in 1 day", x.marksIn(0, 1), 10);
        DUE.is("34: how much more", x.star(3, 1), 12);
        DUE.is("34: who", x.star(3, 0), 0);
        x.keepOff(0, true);
        DUE.is("33: marks so far", x.marksIn(0, 5), 6);
        DUE.is("34: who", x.star(60, 0), 1);
        DUE.is("34: how much more", x.star(60, 1), 240);
        DUE.is("34: nothing happens", x.count(2), 4);
        int[][] wrong = {{2, 1}, {-1, 1}, {0, -1}, {0, 61}};
        for (int[] pair : wrong) {
            DUE.is("33: wrong ones", x.marksIn(pair[0], pair[1]), -1);
        }
        int[][] wrongStars = {{0, 0}, {61, 0}, {-1, 0}, {1, 2}, {1, -1}};
        for (int[] pair : wrongStars) {
            DUE.is("34: wrong ones", x.star(pair[0], pair[1]), -1);
        }
        DUE.is("34: the first", Due.show(ALIKE).star(9, 0), 0);
        DUE.is("34: the most", Due.show(ALIKE + "marks = 1 + which;").star(9, 0), 1);
        DUE.is("34: nobody is marked", Due.show("person a 1 1 1; person b 1 1 1;").star(1, 0), 0);
        DUE.is("34: no PEOPLE", Due.show("part p 1 1 1;").star(1, 0), -2);
        DUE.is("34: no PEOPLE", Due.show("part p 1 1 1;").star(1, 1), -2);
    }

    private static void promise35() {
        // once a DOG ran out the PART has nobody. LOTS of the first day by SEEDS from 0 on:
        // 90 27 49 94 90 48 95 81 3 97 89 12 64 82 94 13 57 9 74 35
        String text = "person a 6 1 1; part p 6 1 1; stands = 10 - apart * 10; dogs = 50;";
        UnderstudyShow x = Due.show(text);
        DUE.is("35: 1 seed", x.year(1, 1), 1);
        DUE.is("35: 3 seeds", x.year(1, 3), 1);
        DUE.is("35: 20 seeds", x.year(1, 20), 12);
        DUE.is("35: now", x.year(0, 20), 20);
        DUE.is("35: nothing happens", x.count(2) + x.count(7), 0);
        // of the seeds 9999, 10000 ..: 46 87 89 56 12
        x = Due.show(text + "seed 9999;");
        DUE.is("35: from 9999 on", x.year(1, 1), 0);
        DUE.is("35: from 9999 on", x.year(1, 5), 3);
        // of the seeds 100 to 105 on both days: 24 22, 31 16, 29 87, 49 43, 23 85, 69 82
        x = Due.show(text + "seed 100;");
        DUE.is("35: two days", x.year(2, 6), 1);
        DUE.is("35: no PARTS", Due.show("").year(5, 7), 7);
        DUE.is("35: no PEOPLE", Due.show("part p 1 1 1;").year(5, 7), 0);
        int[][] wrong = {{-1, 1}, {61, 1}, {1, 0}, {1, 21}, {1, -1}};
        for (int[] pair : wrong) {
            DUE.is("35: wrong ones", x.year(pair[0], pair[1]), -1);
        }
    }

    public static void main(String[] args) {
        promise21();
        promise22();
        promise23();
        promise24();
        promises25And26();
        promise27();
        promise28();
        promise29();
        promise30();
        promise31();
        promise32();
        promises33And34();
        promise35();
        DUE.end();
    }
}
