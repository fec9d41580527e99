import java.util.function.Consumer;

/** The edges that the document names of how PARTS are given (promises 14 to 20), sentence by sentence. */
public final class EdgesOfGivingTest {
    private static final Due DUE = new Due("EdgesOfGivingTest");
    private static final int MAX = Integer.MAX_VALUE;
    private static final int MIN = Integer.MIN_VALUE;
    private static final String TWO_FOR_TWO = "person a 5 1 1; person b 5 1 1; part p 5 1 1; part q 5 1 1;";
    private static final String SEVEN = "person a 1 1 1; person b 2 1 1; person c 3 1 1; person d 4 1 1; person e 5 1 1;"
        + "person f 6 1 1; person g 7 1 1;";
    private static final String SIX = "part p 7 1 1; part q 6 1 1; part r 5 1 1; part s 4 1 1; part t 3 1 1; part u 2 1 1;";

    private static void nothingHappens() {
        DUE.says("What would be (nothing happens;");
        String[] names = {"empty", "given(-1)", "given(0)", "given(9)", "whole", "costs", "costs of none", "rather(0)", "rather(1)",
            "ways", "fairest"};
        java.util.List<Consumer<UnderstudyShow>> calls = java.util.List.of(x -> x.empty(), x -> x.given(-1), x -> x.given(0),
            x -> x.given(9), x -> x.whole(), x -> x.costs(0, 1), x -> x.costs(7, 7), x -> x.rather(0), x -> x.rather(1),
            x -> x.ways(), x -> x.fairest());
        for (int i = 0; i < names.length; i++) {
            Look.nothingHappens(DUE, names[i], calls.get(i));
        }
    }

    private static void empty() {
        DUE.says("EMPTY: PARTS that are CAST by nobody.");
        DUE.says("EMPTY (bits).");
        DUE.is("no PARTS", Due.show("person a 1 1 1;").empty(), 0);
        DUE.is("of a new object", new UnderstudyShow().empty(), 0);
        DUE.is("six PARTS, no PEOPLE", Due.show(SIX + "least 0;").empty(), 63);
        UnderstudyShow x = Due.show(SEVEN + SIX);
        DUE.is("none", x.empty(), 0);
        for (int person = 0; person < 7; person++) {
            x.keepOff(person, true);
            DUE.is("with " + (person + 1) + " kept off", x.empty(), 63 - (63 >> person));
        }
        DUE.is("by LEAST", Due.show(TWO_FOR_TWO + "stands = 4; least 4;").empty(), 0);
        DUE.is("one below LEAST", Due.show(TWO_FOR_TWO + "stands = 4 - which; least 4;").empty(), 2);
    }

    private static void given(String what, UnderstudyShow x, int most, int... whom) {
        DUE.is(what + ": how much", x.given(-1), most);
        for (int part = 0; part < whom.length; part++) {
            DUE.is(what + ": to whom " + part, x.given(part), whom[part]);
        }
        DUE.is(what + ": one PART too far", x.given(whom.length), -1);
    }

    private static void giving() {
        DUE.says("GIVEN: the most that STANDS, added, of PARTS, each given to one PERSON at most who is not kept off "
            + "and STANDS for it by LEAST or more, each PERSON being one PART at most, can be (a PART with nobody "
            + "0); whom, of alike ones the lowest PERSON for the first PART, nobody behind all, then for the next "
            + "one.");
        given("alike", Due.show(TWO_FOR_TWO), 20, 0, 1);
        given("the lowest of three", Due.show("person c 9 9 9;" + TWO_FOR_TWO), 20, 1, 2);
        given("crosswise", Due.show(TWO_FOR_TWO + "person c 7 1 1;"
            + "stands = if which < 1 then 9 else if hour < 6 then 9 else 0;"), 18, 0, 1);
        given("one for two", Due.show("person a 5 1 1; part p 5 1 1; part q 5 1 1;"), 10, 0, -2);
        given("one for the second", Due.show("person a 5 1 1; part p 4 1 1; part q 5 1 1;"), 10, -2, 0);
        given("nobody behind all", Due.show("person a 5 1 1; person b 5 1 1; part p 5 1 1; stands = 0; least 0;"), 0, 0);
        given("nobody behind all, by 0", Due.show(TWO_FOR_TWO + "stands = which; least 0;"), 1, 0, 1);
        given("the first PART's is the lowest, by 0", Due.show(TWO_FOR_TWO + "part r 5 1 1; stands = 0; least 0;"), 0, 0, 1, -2);
        given("LEAST 1 and 0", Due.show(TWO_FOR_TWO + "stands = 0;"), 0, -2, -2);
        given("by LEAST", Due.show(TWO_FOR_TWO + "stands = 7; least 7;"), 14, 0, 1);
        given("one below LEAST", Due.show(TWO_FOR_TWO + "stands = 6; least 7;"), 0, -2, -2);
        given("more by two than by the best one", Due.show("person a 0 1 1; person b 1 1 1; part p 5 1 1; part q 5 1 1;"
            + "stands = if hour < 1 then 9 + which else if which < 1 then 0 else 8;"), 17, 0, 1);
        given("the best one alone", Due.show("person a 0 1 1; person b 1 1 1; part p 5 1 1; part q 5 1 1;"
            + "stands = if hour < 1 then 9 - 5 * which else if which < 1 then 3 else 0;"), 9, 0, -2);
        UnderstudyShow x = Due.show(SEVEN + SIX);
        given("six of seven", x, 60, 6, 5, 4, 3, 2, 1);
        x.keepOff(6, true);
        given("the last kept off", x, 54, 0, 5, 4, 3, 2, 1);
        for (int person = 0; person < 6; person++) {
            x.keepOff(person, true);
        }
        given("all kept off", x, 0, -2, -2, -2, -2, -2, -2);
        given("the most that can be", Due.show(SEVEN + SIX + "stands = 99;"), 594, 0, 1, 2, 3, 4, 5);
    }

    private static void givenAnswers() {
        DUE.says("GIVEN: how much (i NONE), else to whom the i-th PART (-2: nobody); NONE: no such PART.");
        UnderstudyShow x = Due.show(TWO_FOR_TWO + "part r 5 1 1;");
        DUE.is("how much", x.given(UnderstudyShow.NONE), 20);
        DUE.is("nobody", x.given(2), -2);
        int[] wrong = {-2, -3, 3, 4, 6, MAX, MIN};
        for (int i : wrong) {
            DUE.is("given(" + i + ")", x.given(i), -1);
        }
        DUE.is("no PARTS: how much", new UnderstudyShow().given(-1), 0);
        DUE.is("no PARTS: no such PART", new UnderstudyShow().given(0), -1);
        DUE.is("no PEOPLE: how much", Due.show("part p 1 1 1;").given(-1), 0);
        DUE.is("no PEOPLE: nobody", Due.show("part p 1 1 1;").given(0), -2);
    }

    private static int wholeOf(String people, String parts) {
        return Due.show(people + parts + "stands = 9 - apart; least 9;").whole();
    }

    private static void whole() {
        DUE.says("WHOLE: the fewest hours by which PERSONS' HOURS are MOVED, added (either way round), so that PARTS "
            + "can be given so that none is with nobody; -2: not;");
        DUE.is("later", wholeOf("person a 3 1 1;", "part p 8 1 1;"), 5);
        DUE.is("earlier", wholeOf("person a 8 1 1;", "part p 3 1 1;"), 5);
        DUE.is("round midnight, later", wholeOf("person a 22 1 1;", "part p 1 1 1;"), 3);
        DUE.is("round midnight, earlier", wholeOf("person a 1 1 1;", "part p 22 1 1;"), 3);
        DUE.is("half a day", wholeOf("person a 1 1 1;", "part p 13 1 1;"), 12);
        DUE.is("more than half a day", wholeOf("person a 1 1 1;", "part p 14 1 1;"), 11);
        DUE.is("the nearer one", wholeOf("person a 1 1 1; person b 4 1 1;", "part p 6 1 1;"), 2);
        DUE.is("added", wholeOf("person a 1 1 1; person b 4 1 1;", "part p 6 1 1; part q 7 1 1;"), 8);
        DUE.is("not each PART's nearest", wholeOf("person a 5 1 1; person b 10 1 1;", "part p 6 1 1; part q 4 1 1;"), 5);
        DUE.is("most hours", wholeOf(SEVEN.replaceAll("[1-7] 1 1", "0 1 1"), SIX.replaceAll("[2-7] 1 1", "12 1 1")), 72);
        DUE.is("one too few", wholeOf("person a 6 1 1;", "part p 6 1 1; part q 6 1 1;"), -2);
        DUE.is("no hour is good", Due.show("person a 5 1 1; part p 5 1 1; stands = 8; least 9;").whole(), -2);
        DUE.is("by LEAST", Due.show("person a 5 1 1; part p 5 1 1; stands = 9; least 9;").whole(), 0);
        DUE.says("WHOLE (0: as now); -2: not.");
        DUE.is("as now", wholeOf("person a 6 1 1; person b 7 1 1;", "part p 6 1 1; part q 7 1 1;"), 0);
        DUE.is("as now, though CAST is not whole", Due.show("person a 0 1 1; person b 1 1 1; part p 5 1 1; part q 5 1 1;"
            + "stands = if hour < 1 then 9 else if which < 1 then 8 else 0;").whole(), 0);
        DUE.is("no PARTS", Due.show("person a 5 1 1;").whole(), 0);
        DUE.is("of a new object", new UnderstudyShow().whole(), 0);
        DUE.is("no PEOPLE", Due.show("part p 5 1 1; least 0;").whole(), -2);
        UnderstudyShow x = Due.show("person a 6 1 1; person b 9 1 1; part p 6 1 1; stands = 9 - apart; least 9;");
        x.keepOff(0, true);
        DUE.is("not by one kept off", x.whole(), 3);
        x.keepOff(1, true);
        DUE.is("all kept off", x.whole(), -2);
    }

    private static void costs() {
        DUE.says("of one PART and PERSON alone: COSTS.");
        UnderstudyShow x = Due.show("person a 0 1 1; part p 0 1 1; stands = 9 - apart; least 9;");
        for (int hour = 0; hour < 24; hour++) {
            x.write(0, hour);
            DUE.is("to " + hour, x.costs(0, 0), Math.min(hour, 24 - hour));
        }
        x = Due.show("person a 6 1 1; person b 9 1 1; part p 6 1 1; part q 6 1 1; stands = 9 - apart; least 8;");
        DUE.is("whoever else is it", x.costs(1, 0), 2);
        DUE.is("whatever else they are", x.costs(0, 1), 0);
        DUE.says("COSTS (0: as now); -2: not; NONE: no such ones.");
        DUE.is("as now", x.costs(0, 0), 0);
        DUE.is("not", Due.show("person a 1 1 1; part p 1 1 1; stands = 3; least 4;").costs(0, 0), -2);
        DUE.is("at one hour alone", Due.show("person a 1 1 1; part p 1 1 1; stands = if hour < 23 then 0 else 1;").costs(0, 0), 2);
        DUE.is("by LEAST 0", Due.show("person a 1 1 1; part p 1 1 1; stands = 0; least 0;").costs(0, 0), 0);
        UnderstudyShow no = Due.show("person a 0 1 1; part p 5 1 1; stands = if hour < 0 then 9 else if 23 < hour then 9 else 0;");
        DUE.is("no HOUR is below 0 or above 23", no.costs(0, 0), -2);
        DUE.is("no HOUR is below 0 or above 23", no.whole(), -2);
        for (int hour = 0; hour < 24; hour++) {
            UnderstudyShow one = Due.show("person a 5 1 1; part p 5 1 1; stands = if hour < " + hour + " then 0 else if "
                + hour + " < hour then 0 else 9;");
            int hours = Math.abs(hour - 5);
            DUE.is("to the HOUR " + hour + " alone", one.costs(0, 0), Math.min(hours, 24 - hours));
            DUE.is("to the HOUR " + hour + " alone", one.whole(), Math.min(hours, 24 - hours));
        }
        x.keepOff(0, true);
        DUE.is("one kept off is given nothing", x.costs(0, 0), -2);
        DUE.is("another is", x.costs(1, 0), 2);
        int[] wrong = {-1, -2, 2, 6, 7, MAX, MIN};
        for (int other : wrong) {
            DUE.is("costs(" + other + ", 0)", x.costs(other, 0), -1);
            DUE.is("costs(0, " + other + ")", x.costs(0, other), -1);
            DUE.is("costs(1, " + other + ")", x.costs(1, other), -1);
        }
    }

    private static void rather(String what, UnderstudyShow x, int many, int first) {
        DUE.is(what + ": how many", x.rather(0), many);
        DUE.is(what + ": the first", x.rather(1), first);
    }

    private static void rathers() {
        DUE.says("RATHER: how many pairs, a PERSON who is not kept off and a PART, as CAST now, of which that one "
            + "STANDS for it by LEAST or more, more than for what they are (nobody: 0), and more than who is it "
            + "(nobody: 0); the first by PERSON, then by PART.");
        rather("as much as for what they are", Due.show(TWO_FOR_TWO + "stands = 9;"), 0, -2);
        rather("more than for what they are, nobody is it", Due.show("person a 5 1 1; part p 5 1 1; part q 5 1 1;"
            + "stands = 8 + which;"), 1, 1);
        rather("as much, nobody is it", Due.show("person a 5 1 1; part p 5 1 1; part q 5 1 1; stands = 8;"), 0, -2);
        rather("more, but as much as who is it", Due.show(TWO_FOR_TWO + "stands = 8 + which;"), 0, -2);
        rather("more than who is it", Due.show("person a 5 1 1; person b 6 1 1; part p 5 1 1; part q 5 1 1;"
            + "stands = if hour < 6 then 8 + which else 7;"), 1, 1);
        rather("by LEAST", Due.show("person a 5 1 1; part p 5 1 1; part q 5 1 1; stands = 8 + which; least 9;"), 0, -2);
        rather("one is nothing, nobody is it, one below LEAST", Due.show("person a 5 1 1; part p 5 1 1; stands = 3;"
            + "least 4;"), 0, -2);
        rather("nobody: 0, by 0", Due.show("person a 5 1 1; part p 5 1 1; part q 5 1 1; stands = 0; least 0;"), 0, -2);
        rather("nobody: 0, by 1", Due.show("person a 5 1 1; part p 5 1 1; part q 5 1 1; stands = which; least 0;"), 1, 1);
        UnderstudyShow x = Due.show("person z 9 9 9; person a 5 1 1; person b 6 1 1; part p 5 1 1; part q 5 1 1; part r 5 1 1;"
            + "stands = if 6 < hour then 0 else if hour < 6 then 8 + which else 7 + which;");
        // a is p by 8 and would rather be q, by 9, and r, by 10; b is q by 8 and would rather be r, by 9
        rather("by PERSON, then by PART", x, 3, 11);
        x.keepOff(1, true);
        // b is p by 7 then, and would rather be q and r
        rather("not one kept off", x, 2, 21);
        x.keepOff(2, true);
        rather("all that can kept off", x, 0, -2);
        rather("the last of all", Due.show(SEVEN + SIX + "stands = if hour < 7 then 0 else 5 + which;"), 5, 61);
        DUE.says("RATHER: what 0 how many, 1 the first (10 * the PERSON + the PART; -2: none). NONE for others.");
        rather("of a new object", new UnderstudyShow(), 0, -2);
        int[] wrong = {-1, -2, 2, 3, MAX, MIN};
        for (int what : wrong) {
            DUE.is("rather(" + what + ")", x.rather(what), -1);
        }
    }

    private static void ways() {
        DUE.says("WAYS: in how many ways all PARTS can be given, as for GIVEN, none to nobody.");
        DUE.says("WAYS.");
        DUE.is("of a new object", new UnderstudyShow().ways(), 1);
        DUE.is("no PARTS", Due.show(SEVEN).ways(), 1);
        DUE.is("no PEOPLE", Due.show("part p 1 1 1; least 0;").ways(), 0);
        DUE.is("one too few", Due.show("person a 5 1 1; part p 5 1 1; part q 5 1 1;").ways(), 0);
        DUE.is("two for two", Due.show(TWO_FOR_TWO).ways(), 2);
        DUE.is("by LEAST", Due.show(TWO_FOR_TWO + "stands = 3; least 3;").ways(), 2);
        DUE.is("one below LEAST", Due.show(TWO_FOR_TWO + "stands = 3; least 4;").ways(), 0);
        DUE.is("by 0", Due.show(TWO_FOR_TWO + "stands = 0; least 0;").ways(), 2);
        UnderstudyShow x = Due.show(SEVEN + SIX + "stands = 9;");
        int[] want = {5040, 720, 0};
        for (int off = 0; off < 3; off++) {
            DUE.is("six PARTS with " + off + " kept off", x.ways(), want[off]);
            x.keepOff(off, true);
        }
        DUE.is("seven for one", Due.show(SEVEN + "part p 1 1 1;").ways(), 7);
    }

    private static void fairest() {
        DUE.says("FAIREST: of all ways to give every PART to another PERSON who is not kept off (LEAST not looked at) "
            + "the one whose least STANDS is greatest: how much that is.");
        DUE.is("LEAST not looked at", Due.show(TWO_FOR_TWO + "stands = 3; least 99;").fairest(), 3);
        DUE.is("by 0", Due.show(TWO_FOR_TWO + "stands = 0;").fairest(), 0);
        DUE.is("by 99", Due.show(SEVEN + SIX + "stands = 200;").fairest(), 99);
        DUE.is("the least of two", Due.show(TWO_FOR_TWO + "stands = 3 + which;").fairest(), 3);
        DUE.is("another PERSON each", Due.show("person a 1 1 1; person b 2 1 1; part p 5 1 1; part q 5 1 1;"
            + "stands = if hour < 2 then 50 else 2 + which;").fairest(), 3);
        DUE.is("not the one by most, added", Due.show("person a 1 1 1; person b 2 1 1; part p 5 1 1; part q 5 1 1;"
            + "stands = if hour < 2 then 10 + 40 * which else 5 * (1 - which) + 9 * which;").fairest(), 9);
        UnderstudyShow x = Due.show("person a 1 1 1; person b 2 1 1; person c 3 1 1; part p 5 1 1; part q 5 1 1;"
            + "stands = 10 * hour;");
        DUE.is("the two best", x.fairest(), 20);
        x.keepOff(2, true);
        DUE.is("not one kept off", x.fairest(), 10);
        DUE.says("FAIREST (0: no PARTS); -2: too few PEOPLE.");
        x.keepOff(1, true);
        DUE.is("too few who are not kept off", x.fairest(), -2);
        DUE.is("too few", Due.show("person a 5 1 1; part p 5 1 1; part q 5 1 1;").fairest(), -2);
        DUE.is("just enough", Due.show("person a 5 1 1; part p 5 1 1;").fairest(), 10);
        DUE.is("no PEOPLE", Due.show("part p 5 1 1;").fairest(), -2);
        DUE.is("no PARTS", Due.show("person a 5 1 1;").fairest(), 0);
        DUE.is("of a new object", new UnderstudyShow().fairest(), 0);
        UnderstudyShow none = Due.show("person a 5 1 1;");
        none.keepOff(0, true);
        DUE.is("no PARTS, all kept off", none.fairest(), 0);
    }

    public static void main(String[] args) {
        nothingHappens();
        empty();
        giving();
        givenAnswers();
        whole();
        costs();
        rathers();
        ways();
        fairest();
        DUE.end();
    }
}
