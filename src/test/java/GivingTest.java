/** Promises 14 to 20: which PARTS have nobody, and how PARTS are best given. */
public final class GivingTest {
    private static final Due DUE = new Due("GivingTest");
    private static final String THREE = "person ann 8 2 3; person bob 9 2 5; person cid 12 7 3;"
        + "part coach 8 2 4; part guard 10 3 5; part gog 20 9 9; writes = 1; marks = 1 + which; least 4;";
    /** The first one STANDS for both by 9, the second for the first PART alone, by 8. */
    private static final String GREEDY = "person a 0 1 1; person b 1 1 1; part p 5 1 1; part q 5 1 1;"
        + "stands = if hour < 1 then 9 else if which < 1 then 8 else 0;";
    private static final String ALIKE = "person a 5 1 1; person b 5 1 1; person c 5 1 1; part p 5 1 1; part q 5 1 1;";
    /** a STANDS by 19 and 20, b by 15 and 16. */
    private static final String ENVY = "person a 10 1 1; person b 14 1 1; part p 9 1 1; part q 10 1 1;"
        + "stands = 20 - apart;";

    private static void promise14() {
        UnderstudyShow x = Due.show(THREE);
        DUE.is("14: empty", x.empty(), 4);
        x.keepOff(0, true);
        x.keepOff(1, true);
        DUE.is("14: all empty", x.empty(), 7);
        x.move(2, 10);
        DUE.is("14: one filled", x.empty(), 5);
        DUE.is("14: none empty", Due.show(ALIKE).empty(), 0);
        DUE.is("14: no PARTS", Due.show("person a 1 1 1;").empty(), 0);
        DUE.is("14: no PEOPLE", Due.show("part a 1 1 1; part b 1 1 1; least 0;").empty(), 3);
    }

    private static void given(String what, UnderstudyShow x, int most, int... whom) {
        DUE.is("15: " + what + ": how much", x.given(-1), most);
        for (int part = 0; part < whom.length; part++) {
            DUE.is("15: " + what + ": to whom " + part, x.given(part), whom[part]);
        }
        DUE.is("15: " + what + ": no such PART", x.given(whom.length), -1);
    }

    private static void promise15() {
        given("three", Due.show(THREE), 17, 0, 1, -2);
        UnderstudyShow x = Due.show(GREEDY);
        DUE.is("15: CAST is not the best", x.part(1, 3), -2);
        given("best", x, 17, 1, 0);
        x.keepOff(0, true);
        given("one kept off", x, 8, 1, -2);
        x = Due.show(ALIKE);
        given("the lowest", x, 20, 0, 1);
        x.keepOff(0, true);
        given("the lowest", x, 20, 1, 2);
        given("LEAST looked at", Due.show(THREE + "least 9;"), 9, 0, -2, -2);
        given("nobody behind all", Due.show("person a 5 1 1; person b 5 1 1; part p 5 1 1; part q 5 1 1; stands = 0; least 0;"),
            0, 0, 1);
        given("nobody, if by LEAST", Due.show("person a 5 1 1; part p 5 1 1; stands = 0;"), 0, -2);
        given("nobody behind all", Due.show("person a 5 1 1; part p 5 1 1; part q 5 1 1;"), 10, 0, -2);
        given("the one PERSON for more", Due.show("person a 5 1 1; part p 4 1 1; part q 5 1 1;"), 10, -2, 0);
        given("first PART first", Due.show("person a 5 1 1; person b 5 1 1; part p 5 1 1; part q 5 1 1; part r 5 1 1;"),
            20, 0, 1, -2);
        given("no PARTS", Due.show("person a 5 1 1;"), 0);
        given("no PEOPLE", Due.show("part p 5 1 1;"), 0, -2);
        given("six of seven", Due.show("person a 1 1 1; person b 2 1 1; person c 3 1 1; person d 4 1 1; person e 5 1 1;"
            + "person f 6 1 1; person g 7 1 1; part p 7 1 1; part q 6 1 1; part r 5 1 1; part s 4 1 1; part t 3 1 1;"
            + "part u 2 1 1;"), 60, 6, 5, 4, 3, 2, 1);
        DUE.is("15: wrong", x.given(-2), -1);
        DUE.is("15: wrong", x.given(2), -1);
        DUE.is("15: wrong", x.given(Integer.MAX_VALUE), -1);
    }

    private static void promise16() {
        UnderstudyShow x = Due.show("person a 0 1 1; person b 12 1 1; part p 3 1 1; part q 3 1 1; stands = 9 - apart; least 9;");
        DUE.is("16: both", x.whole(), 12);
        x.write(1, 12);
        DUE.is("16: one", x.whole(), 3);
        x.move(0, 3);
        DUE.is("16: as now", x.whole(), 0);
        x.keepOff(0, true);
        DUE.is("16: too few", x.whole(), -2);
        DUE.is("16: by few hours, crosswise",
            Due.show("person a 0 1 1; person b 1 1 1; part p 2 1 1; part q 23 1 1; stands = 9 - apart; least 9;").whole(), 2);
        DUE.is("16: not", Due.show(THREE).whole(), -2);
        DUE.is("16: no PARTS", Due.show("person a 1 1 1;").whole(), 0);
        DUE.is("16: no PEOPLE", Due.show("part a 1 1 1;").whole(), -2);
        DUE.is("16: LEAST 0", Due.show("person a 1 1 1; part p 12 9 9; least 0;").whole(), 0);
        DUE.is("16: one more than needed is free to stay",
            Due.show("person a 8 1 1; person b 1 1 1; part p 4 1 1; stands = 9 - apart; least 8;").whole(), 2);
        DUE.is("16: nothing happens", x.person(1, 0), 12);
    }

    private static void promise17() {
        UnderstudyShow x = Due.show("person a 23 1 1; person b 20 1 1; part p 1 1 1; part q 13 1 1; stands = 9 - apart; least 9;");
        DUE.is("17: round midnight", x.costs(0, 0), 2);
        DUE.is("17: the other way", x.costs(0, 1), 10);
        DUE.is("17: costs(1, 0)", x.costs(1, 0), 5);
        DUE.is("17: costs(1, 1)", x.costs(1, 1), 7);
        x.move(0, 1);
        DUE.is("17: as now", x.costs(0, 0), 0);
        DUE.is("17: half the day", x.costs(0, 1), 12);
        x.keepOff(0, true);
        DUE.is("17: one kept off can be given nothing", x.costs(0, 0), -2);
        int[][] wrong = {{2, 0}, {-1, 0}, {0, 2}, {0, -1}, {Integer.MIN_VALUE, Integer.MAX_VALUE}};
        for (int[] pair : wrong) {
            DUE.is("17: wrong ones", x.costs(pair[0], pair[1]), -1);
        }
        DUE.is("17: not", Due.show("person a 1 1 1; part p 1 1 1; stands = 3; least 4;").costs(0, 0), -2);
        DUE.is("17: by hour",
            Due.show("person a 20 1 1; part p 1 1 1; stands = if hour < 3 then 5 else 0;").costs(0, 0), 4);
    }

    private static void promise18() {
        UnderstudyShow x = Due.show(ENVY);
        DUE.is("18: one pair", x.rather(0), 1);
        DUE.is("18: a and q", x.rather(1), 1);
        x.keepOff(0, true);
        // b is p by 15 now, q has nobody and b STANDS for it by 16
        DUE.is("18: nobody is 0", x.rather(0), 1);
        DUE.is("18: b and q", x.rather(1), 11);
        DUE.is("18: by LEAST", Due.show(ENVY + "least 16; stands = 16 - which - apart;").rather(0), 0);
        x = Due.show("person a 5 1 1; part p 5 1 1; part q 5 1 1; stands = which; least 0;");
        DUE.is("18: 1 is more than nobody", x.rather(0), 1);
        DUE.is("18: a and q", x.rather(1), 1);
        x = Due.show(THREE);
        DUE.is("18: none", x.rather(0), 0);
        DUE.is("18: none", x.rather(1), -2);
        DUE.is("18: wrong", x.rather(2), -1);
        DUE.is("18: wrong", x.rather(-1), -1);
        x = Due.show("person b 10 1 1; person a 14 1 1; part p 9 1 1; part q 10 1 1; part r 10 1 1; stands = 20 - apart;");
        // p is given to b by 19, q to a by 16, r to nobody: b would rather be q, r; a, who is q by 16, is as well r by 16
        DUE.is("18: two pairs", x.rather(0), 2);
        DUE.is("18: the first by PERSON, then by PART", x.rather(1), 1);
    }

    private static void promise19() {
        UnderstudyShow x = Due.show(ALIKE);
        DUE.is("19: three for two", x.ways(), 6);
        x.keepOff(1, true);
        DUE.is("19: two for two", x.ways(), 2);
        x.keepOff(0, true);
        DUE.is("19: one for two", x.ways(), 0);
        DUE.is("19: by LEAST", Due.show(GREEDY).ways(), 1);
        DUE.is("19: not", Due.show(THREE).ways(), 0);
        DUE.is("19: no PARTS", Due.show("person a 1 1 1;").ways(), 1);
        DUE.is("19: six of seven", Due.show("person a 1 1 1; person b 2 1 1; person c 3 1 1; person d 4 1 1; person e 5 1 1;"
            + "person f 6 1 1; person g 7 1 1; part p 7 1 1; part q 6 1 1; part r 5 1 1; part s 4 1 1; part t 3 1 1;"
            + "part u 2 1 1;").ways(), 5040);
    }

    private static void promise20() {
        UnderstudyShow x = Due.show(ENVY);
        DUE.is("20: fairest", x.fairest(), 16);
        DUE.is("20: LEAST is not looked at", Due.show(ENVY + "least 99;").fairest(), 16);
        x.keepOff(0, true);
        DUE.is("20: too few", x.fairest(), -2);
        DUE.is("20: crosswise", Due.show(GREEDY).fairest(), 8);
        DUE.is("20: none stands", Due.show(THREE).fairest(), 0);
        DUE.is("20: no PARTS", Due.show("person a 1 1 1;").fairest(), 0);
        DUE.is("20: no PARTS, all kept off", Due.show("").fairest(), 0);
        DUE.is("20: no PEOPLE", Due.show("part a 1 1 1;").fairest(), -2);
        DUE.is("20: most", Due.show("person a 1 1 1; part p 1 1 1; stands = 1000;").fairest(), 99);
    }

    public static void main(String[] args) {
        promise14();
        promise15();
        promise16();
        promise17();
        promise18();
        promise19();
        promise20();
        DUE.end();
    }
}
