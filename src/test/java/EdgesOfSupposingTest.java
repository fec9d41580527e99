import java.util.List;
import java.util.function.Consumer;

/** The edges that the document names of what would be (promises 21 to 35), sentence by sentence. */
public final class EdgesOfSupposingTest {
    private static final Due DUE = new Due("EdgesOfSupposingTest");
    private static final int MAX = Integer.MAX_VALUE;
    private static final int MIN = Integer.MIN_VALUE;
    private static final String TWO_FOR_TWO = "person a 5 1 1; person b 5 1 1; part p 5 1 1; part q 5 1 1;";
    /** The PART goes to a on even days, to b on odd ones, from 6 to 5 and back. */
    private static final String TO_AND_FRO = "person a 0 1 1; person b 12 1 1; part p 6 1 1;"
        + "stands = 50 + (day - day / 2 * 2) * (hour * 2 - 12);";
    /** The PART goes on from 0 to 12, where a is, and from the 12th day on to 18, where b is. */
    private static final String ROUND = "person a 12 1 1; person b 18 1 1; part p 0 1 1; writes = 1;"
        + "stands = if day < 12 then 30 - hour else hour;";

    private static void nothingHappens() {
        DUE.says("What would be (nothing happens;");
        String[] names = {"bestHour", "trade", "key", "crowd", "habit", "regular", "settles", "missed", "drift", "meet", "away",
            "then HOUR", "then who", "marksIn", "star", "year"};
        List<Consumer<UnderstudyShow>> calls = List.of(x -> x.bestHour(0, 0), x -> x.trade(0, 1), x -> x.key(), x -> x.crowd(0),
            x -> x.habit(0, 0), x -> x.regular(0, 0), x -> x.settles(), x -> x.missed(0));
        List<Consumer<UnderstudyShow>> more = List.of(x -> x.drift(0, 60), x -> x.meet(0), x -> x.away(), x -> x.then(0, 60, 0),
            x -> x.then(0, 60, 1), x -> x.marksIn(0, 60), x -> x.star(60, 0), x -> x.year(60, 20));
        for (int i = 0; i < 8; i++) {
            Look.nothingHappens(DUE, names[i], calls.get(i));
            Look.nothingHappens(DUE, names[8 + i], more.get(i));
        }
    }

    private static void dogsInTwoAlone() {
        DUE.says("DOGS in IN n DAYS and YEAR alone).");
        String text = "person a 5 1 1; part p 5 1 1; part q 8 1 1; stands = 9 - apart; marks = apart; dogs = ";
        UnderstudyShow with = Due.show(text + "100;");
        UnderstudyShow without = Due.show(text + "0;");
        DUE.is("settles", with.settles(), without.settles());
        DUE.is("settles", with.settles(), 0);
        DUE.is("drift", with.drift(0, 5), 0);
        DUE.is("meet", with.meet(0), -2);
        DUE.is("star", with.star(5, 1), 0);
        DUE.is("then, with DOGS", with.then(0, 5, 0), 10);
        DUE.is("then, without", without.then(0, 5, 0), 5);
        DUE.is("marksIn, with DOGS", with.marksIn(0, 5), 10);
        DUE.is("marksIn, without", without.marksIn(0, 5), 0);
        // within 12 days a DOG takes the PART away from LEAST
        DUE.is("year, with DOGS", Due.show("person a 5 1 1; part p 5 1 1; stands = 9 - apart; dogs = 100;").year(12, 20), 0);
        DUE.is("year, without", Due.show("person a 5 1 1; part p 5 1 1; stands = 9 - apart;").year(12, 20), 20);
    }

    private static void best(String what, UnderstudyShow x, int hour, int much) {
        DUE.is(what + ": the HOUR", x.bestHour(0, 0), hour);
        DUE.is(what + ": how much", x.bestHour(0, 1), much);
    }

    private static void bestHours() {
        DUE.says("BEST hour of a PERSON: to which, MOVED there, all that are CAST STAND most, added; of alike ones "
            + "the nearest to theirs (the shorter way round), then the lowest; how much.");
        for (int hour = 0; hour < 24; hour++) {
            best("all alike at " + hour, Due.show("person a " + hour + " 1 1; part p 3 1 1; stands = 7;"), hour, 7);
            best("no PARTS at " + hour, Due.show("person a " + hour + " 1 1;"), hour, 0);
            String but = "person a " + hour + " 1 1; part p " + hour + " 1 1; stands = if apart < ";
            int later = (hour + 1) % 24;
            int earlier = (hour + 23) % 24;
            best("one of two at " + hour, Due.show(but + "1 then 0 else 9;"), Math.min(later, earlier), 9);
            best("the other half at " + hour, Due.show(but + "12 then 0 else 9;"), (hour + 12) % 24, 9);
            int other = (hour + 5) % 24;
            best("one hour alone", Due.show("person a " + hour + " 1 1; part p " + other + " 1 1;"
                + "stands = 9 - apart * 9;"), other, 9);
            int near = (hour + 22) % 24;
            best("the nearest of two", Due.show("person a " + hour + " 1 1; part p " + other + " 1 1; part q " + near + " 1 1;"
                + "stands = 9 - apart * 9;"), near, 9);
        }
        best("no HOUR is below 0 or above 23", Due.show("person a 7 1 1; part p 5 1 1;"
            + "stands = if hour < 0 then 9 else if 23 < hour then 9 else 0;"), 7, 0);
        best("of all that are CAST", Due.show("person a 5 1 1; person b 6 1 1; part p 5 1 1; part q 20 1 1;"), 20, 19);
        UnderstudyShow x = Due.show("person a 5 1 1; person b 6 1 1; part p 5 1 1; part q 20 1 1;");
        x.keepOff(0, true);
        best("of one kept off", x, 5, 9);
        DUE.says("BEST hour: what 0 the HOUR, 1 how much; NONE: no such ones.");
        wrongPairs("bestHour", x::bestHour, 2, 2, 0, 0);
    }

    /** One call of two numbers. */
    private interface Two {
        int of(int one, int other);
    }

    /** Numbers from first on, as many as told, are good; with others the call answers NONE. */
    private static void wrongPairs(String name, Two call, int ones, int others, int firstOne, int firstOther) {
        int[] wrong = {-1, -2, MIN, MAX, 1000};
        for (int one : wrong) {
            DUE.is(name + "(" + one + ", 0)", call.of(one, firstOther), -1);
            DUE.is(name + "(0, " + one + ")", call.of(firstOne, one), -1);
        }
        DUE.is(name + ", one too low", call.of(firstOne - 1, firstOther), -1);
        DUE.is(name + ", the other too low", call.of(firstOne, firstOther - 1), -1);
        DUE.is(name + ", one too high", call.of(firstOne + ones, firstOther), -1);
        DUE.is(name + ", the other too high", call.of(firstOne, firstOther + others), -1);
        DUE.is(name + ", the lowest", call.of(firstOne, firstOther) != -1, true);
        DUE.is(name + ", the highest", call.of(firstOne + ones - 1, firstOther + others - 1) != -1, true);
    }

    private static void trades() {
        DUE.says("TRADE of two PEOPLE: by how much more all that are CAST would STAND, added, had they each other's "
            + "HOURS.");
        UnderstudyShow x = Due.show("person a 12 1 1; person b 0 5 1; person c 12 9 9; part p 12 1 1; part q 0 5 1;");
        DUE.is("less", x.trade(0, 1), -10 - 10 + 6 + 6);
        DUE.is("the other way round", x.trade(1, 0), -8);
        DUE.is("at one HOUR", x.trade(0, 2), 0);
        x.move(0, 0);
        x.move(1, 12);
        DUE.is("more", x.trade(0, 1), 8);
        x.keepOff(0, true);
        x.keepOff(1, true);
        DUE.is("both kept off", x.trade(0, 1), 0);
        DUE.is("no PARTS", Due.show("person a 1 1 1; person b 9 1 1;").trade(0, 1), 0);
        DUE.says("TRADE (may be below 0); -100000: no such ones, one and the same.");
        UnderstudyShow far = Due.show("person a 0 1 1; person b 12 9 1; part p 0 1 1; part q 12 9 1;"
            + "stands = if apart + unlike < 1 then 99 else 0;");
        DUE.is("far below 0", far.trade(0, 1), -198);
        far.move(0, 12);
        far.move(1, 0);
        DUE.is("far above 0", far.trade(0, 1), 198);
        int[][] wrong = {{0, 0}, {1, 1}, {2, 2}, {3, 0}, {0, 3}, {3, 3}, {-1, 0}, {0, -1}, {-1, -1}, {7, 1}, {MAX, 0}, {0, MAX}, {MIN, 0}, {0, MIN}};
        for (int[] pair : wrong) {
            DUE.is("trade(" + pair[0] + ", " + pair[1] + ")", x.trade(pair[0], pair[1]), -100000);
        }
        DUE.is("of a new object", new UnderstudyShow().trade(0, 1), -100000);
    }

    private static void keys() {
        DUE.says("KEY: PEOPLE, not kept off, by whose being kept off now more PARTS were EMPTY.");
        DUE.says("KEY (bits).");
        DUE.is("of a new object", new UnderstudyShow().key(), 0);
        DUE.is("no PARTS", Due.show("person a 1 1 1;").key(), 0);
        DUE.is("no PEOPLE", Due.show("part p 1 1 1;").key(), 0);
        DUE.is("just enough", Due.show(TWO_FOR_TWO).key(), 3);
        UnderstudyShow x = Due.show("person c 5 1 1;" + TWO_FOR_TWO);
        DUE.is("one more than enough", x.key(), 0);
        x.keepOff(1, true);
        DUE.is("not one kept off", x.key(), 5);
        x.keepOff(0, true);
        DUE.is("one left", x.key(), 4);
        x.keepOff(2, true);
        DUE.is("all kept off", x.key(), 0);
        DUE.is("one for two", Due.show("person a 5 1 1; part p 5 1 1; part q 5 1 1;").key(), 1);
        DUE.is("less well, but none EMPTY", Due.show("person a 5 1 1; person b 9 1 1; part p 5 1 1;").key(), 0);
        DUE.is("all seven but one", Due.show("person a 1 1 1; person b 2 1 1; person c 3 1 1; person d 4 1 1; person e 5 1 1;"
            + "person f 6 9 9; person g 7 1 1; part p 7 1 1; part q 5 1 1; part r 4 1 1; part s 3 1 1; part t 2 1 1;"
                + "part u 1 1 1;").key(), 95);
    }

    private static void crowds() {
        DUE.says("CROWD: the HOUR at which most PEOPLE and PARTS are, added, of alike ones the first; how many.");
        for (int hour = 0; hour < 24; hour++) {
            UnderstudyShow x = Due.show("person a " + hour + " 1 1; part p " + hour + " 1 1; person b 0 1 1; part q 23 1 1;");
            DUE.is("two or three at " + hour, x.crowd(0), hour);
            DUE.is("how many at " + hour, x.crowd(1), hour == 0 || hour == 23 ? 3 : 2);
        }
        UnderstudyShow x = Due.show("person a 23 1 1; person b 22 1 1; part p 21 1 1;");
        DUE.is("of alike ones the first", x.crowd(0), 21);
        DUE.is("one each", x.crowd(1), 1);
        x.move(0, 22);
        DUE.is("MOVED", x.crowd(0), 22);
        x.keepOff(0, true);
        DUE.is("one kept off is there, too", x.crowd(1), 2);
        x = Due.show("person a 9 1 1; person b 9 1 1; person c 9 1 1; person d 9 1 1; person e 9 1 1;"
            + "person f 9 1 1; person g 9 1 1;"
            + "part p 9 1 1; part q 9 1 1; part r 9 1 1; part s 9 1 1; part t 9 1 1; part u 9 1 1;");
        DUE.is("all of them", x.crowd(1), 13);
        DUE.says("CROWD: what 0 the HOUR, 1 how many. NONE for others.");
        DUE.is("nobody: the first HOUR", new UnderstudyShow().crowd(0), 0);
        DUE.is("nobody: none", new UnderstudyShow().crowd(1), 0);
        int[] wrong = {-1, -2, 2, 3, MAX, MIN};
        for (int what : wrong) {
            DUE.is("crowd(" + what + ")", x.crowd(what), -1);
        }
    }

    private static void habitsAndRegulars() {
        DUE.says("HABIT of a PERSON: the PART as which they were seen most often, of alike ones the first; how often.");
        UnderstudyShow x = Due.show("person a 5 1 1; person b 5 1 1; part p 5 1 1; part q 5 1 1; stands = 9;");
        x.days(1);
        habit(x, "once", 0, 0, 1);
        habit(x, "once", 1, 1, 1);
        regular(x, "once", 0, 0, 1);
        regular(x, "once", 1, 1, 1);
        x.days(1);
        x.keepOff(0, true);
        x.days(1);
        habit(x, "once less", 1, 1, 2);
        x.days(1);
        habit(x, "as often", 1, 0, 2);
        regular(x, "as often", 0, 0, 2);
        x.days(1);
        habit(x, "once more", 1, 0, 3);
        DUE.says("REGULAR of a PART: who was seen as it most often, likewise.");
        regular(x, "once more", 0, 1, 3);
        regular(x, "the other PART", 1, 1, 2);
        x.undo();
        regular(x, "as often", 0, 0, 2);
        DUE.says("HABIT: what 0 which, 1 how often; -2: never seen; NONE: no such ones.");
        UnderstudyShow fresh = Due.show(TWO_FOR_TWO);
        habit(fresh, "never seen", 0, -2, -2);
        habit(Due.show("person a 5 1 1;"), "no PARTS", 0, -2, -2);
        fresh.keepOff(0, true);
        fresh.days(3);
        habit(fresh, "never seen", 0, -2, -2);
        wrongPairs("habit", x::habit, 2, 2, 0, 0);
        wrongPairs("habit", fresh::habit, 2, 2, 0, 0);
        DUE.says("REGULAR: what 0 who, 1 how often; -2: nobody yet; NONE: no such ones.");
        regular(fresh, "nobody yet", 1, -2, -2);
        regular(Due.show("part a 5 1 1;"), "no PEOPLE", 0, -2, -2);
        wrongPairs("regular", x::regular, 2, 2, 0, 0);
        wrongPairs("regular", fresh::regular, 2, 2, 0, 0);
    }

    private static void habit(UnderstudyShow x, String when, int person, int which, int often) {
        DUE.is(when + ": habit(" + person + ", 0)", x.habit(person, 0), which);
        DUE.is(when + ": habit(" + person + ", 1)", x.habit(person, 1), often);
    }

    private static void regular(UnderstudyShow x, String when, int part, int who, int often) {
        DUE.is(when + ": regular(" + part + ", 0)", x.regular(part, 0), who);
        DUE.is(when + ": regular(" + part + ", 1)", x.regular(part, 1), often);
    }

    private static void settling() {
        DUE.says("SETTLES: behind how many DAYS (0 .. 100) no PART's HOUR would change in the next one.");
        DUE.says("SETTLES; -2: not.");
        DUE.is("of a new object", new UnderstudyShow().settles(), 0);
        DUE.is("nobody", Due.show("part p 1 1 1; writes = 1;").settles(), 0);
        for (int far = 0; far <= 12; far++) {
            UnderstudyShow x = Due.show("person a " + far + " 1 1; part p 0 1 1; stands = 50; writes = 1;");
            DUE.is(far + " hours", x.settles(), far);
            x.days(1);
            DUE.is(far + " hours, a day later", x.settles(), Math.max(0, far - 1));
        }
        DUE.is("the slower of two", Due.show("person a 2 1 1; person b 9 1 1; part p 0 1 1; part q 14 1 1;"
            + "stands = 50; writes = 1;").settles(), 5);
        DUE.is("the slower one first", Due.show("person a 5 1 1; person b 12 1 1; part p 0 1 1; part q 14 1 1; stands = 50; writes = 1;").settles(), 5);
        DUE.is("the first PART alone", Due.show("person a 5 1 1; person b 14 1 1; part p 0 1 1; part q 14 1 1; stands = 50; writes = 1;").settles(), 5);
        int[] lasts = {0, 1, 2, 99, 100, 101};
        for (int last : lasts) {
            UnderstudyShow x = Due.show(TO_AND_FRO + "writes = if day < " + last + " then 1 else 0;");
            DUE.is("to and fro for " + last + " DAYS", x.settles(), last <= 100 ? last : -2);
            x.days(1);
            DUE.is("to and fro for " + last + " DAYS, a day later", x.settles(), Math.max(0, last - 1));
        }
        DUE.is("to and fro for ever", Due.show(TO_AND_FRO + "writes = 1;").settles(), -2);
        DUE.is("a day of rest is enough", Due.show(TO_AND_FRO + "writes = if day < 3 then 1 else if day < 4 then 0 else 1;").settles(), 3);
    }

    private static void missed(String when, UnderstudyShow x, int who, int left) {
        DUE.is(when + ": who", x.missed(0), who);
        DUE.is(when + ": how much", x.missed(1), left);
    }

    private static void missing() {
        DUE.says("MISSED: the PERSON, not kept off, who, kept off now, leaves least STANDS of all that are CAST, "
            + "added; of alike ones the first; how much.");
        missed("of alike ones the first", Due.show(TWO_FOR_TWO), 0, 10);
        missed("least is left", Due.show("person a 5 1 1; person b 6 1 1; part p 5 1 1; part q 6 1 1;"
            + "stands = if apart < 1 then 5 + 4 * which else 0;"), 1, 5);
        missed("nothing is left", Due.show("person b 9 9 9; person a 5 1 1; part p 5 1 1;"), 1, 0);
        missed("nobody is missed", Due.show("person a 5 1 1; person b 6 1 1;"), 0, 0);
        missed("another is as good", Due.show("person a 5 1 1; person b 5 1 1; part p 5 1 1;"), 0, 10);
        UnderstudyShow x = Due.show(TWO_FOR_TWO + "person c 5 1 1;");
        x.keepOff(0, true);
        missed("not one kept off", x, 1, 10);
        x.keepOff(1, true);
        missed("the last one", x, 2, 0);
        DUE.says("MISSED: what 0 who, 1 how much; -2: nobody who is not kept off; NONE for others.");
        x.keepOff(2, true);
        missed("all kept off", x, -2, -2);
        missed("no PEOPLE", Due.show("part p 1 1 1;"), -2, -2);
        missed("of a new object", new UnderstudyShow(), -2, -2);
        int[] wrong = {-1, -2, 2, 3, MAX, MIN};
        for (int what : wrong) {
            DUE.is("missed(" + what + ")", x.missed(what), -1);
            DUE.is("missed(" + what + ")", Due.show(TWO_FOR_TWO).missed(what), -1);
        }
    }

    private static void drifting() {
        DUE.says("DRIFT of a PART in n DAYS (1 .. 60): by how many hours it is away from now, the shorter way round.");
        UnderstudyShow x = Due.show(ROUND);
        for (int n = 1; n <= 60; n++) {
            DUE.is("in " + n + " DAYS", x.drift(0, n), n <= 12 ? n : n <= 18 ? 24 - n : 6);
        }
        x.days(5);
        DUE.is("away from now, not from the text", x.drift(0, 1), 1);
        DUE.is("away from now, not from the text", x.drift(0, 60), 11);
        DUE.is("nobody's PART", Due.show("part p 5 1 1; writes = 1;").drift(0, 60), 0);
        DUE.says("DRIFT; NONE: no such ones.");
        wrongPairs("drift", Due.show(TWO_FOR_TWO)::drift, 2, 60, 0, 1);
    }

    private static void meeting() {
        DUE.says("MEET: behind how many DAYS (0 .. 100) two PARTS have one HOUR; of one day the first two.");
        String late = "person a 6 1 1; part p 3 1 1; part q 4 1 1; stands = 50; writes = if day < ";
        int[] firsts = {0, 1, 2, 98, 99, 100};
        for (int first : firsts) {
            UnderstudyShow x = Due.show(late + first + " then 0 else 1;");
            DUE.is("written from day " + first + " on", x.meet(0), first <= 99 ? first + 1 : -2);
            DUE.is("written from day " + first + " on: the two", x.meet(1), first <= 99 ? 1 : -2);
            x.days(1);
            DUE.is("written from day " + first + " on, a day later", x.meet(0), first);
        }
        UnderstudyShow x = Due.show("part p 1 1 1; part q 2 1 1; part r 3 1 1; part s 3 1 1; part t 2 1 1; part u 1 1 1;");
        int[] twos = {5, 14, 23};
        for (int i = 0; i < 3; i++) {
            DUE.is("now", x.meet(0), 0);
            DUE.is("of one day the first two", x.meet(1), twos[i]);
            x.write(i, 20 + i);
        }
        DUE.is("no more", x.meet(0), -2);
        x.write(4, 3);
        DUE.is("the last two but one", x.meet(1), 34);
        DUE.says("MEET: what 0 behind how many DAYS (0: now), 1 the two (10 * the lesser + the other); -2: not. NONE "
            + "for others.");
        DUE.is("one PART alone", Due.show("part p 1 1 1;").meet(0), -2);
        DUE.is("one PART alone", Due.show("part p 1 1 1;").meet(1), -2);
        DUE.is("of a new object", new UnderstudyShow().meet(1), -2);
        DUE.is("PEOPLE do not count", Due.show("person a 1 1 1; person b 1 1 1; part p 1 1 1;").meet(0), -2);
        int[] wrong = {-1, -2, 2, 3, MAX, MIN};
        for (int what : wrong) {
            DUE.is("meet(" + what + ")", x.meet(what), -1);
        }
    }

    private static void goingAway() {
        DUE.says("BACK: hours by which all PARTS are away from those told in the text, added.");
        DUE.says("BACK.");
        DUE.is("of a new object", new UnderstudyShow().away(), 0);
        UnderstudyShow x = Due.show("person a 9 1 1; part p 0 1 1; part q 23 1 1; part r 12 1 1;");
        DUE.is("as told", x.away(), 0);
        for (int hour = 1; hour < 24; hour++) {
            x.write(0, hour);
            DUE.is("one PART at " + hour, x.away(), Math.min(hour, 24 - hour));
        }
        x.write(1, 0);
        DUE.is("added", x.away(), 2);
        x.write(2, 0);
        DUE.is("added", x.away(), 14);
        x.move(0, 21);
        DUE.is("PEOPLE do not count", x.away(), 14);
        x.write(0, 0);
        x.write(1, 23);
        x.write(2, 12);
        DUE.is("brought back", x.away(), 0);
    }

    private static void inDays() {
        DUE.says("IN n DAYS (0 .. 60; with DOGS): HOUR of a PART; who is CAST; MARKS of a PERSON.");
        UnderstudyShow x = Look.busy();
        x.keepOff(1, false);
        for (int n = 0; n <= 60; n++) {
            UnderstudyShow y = Look.busy();
            y.keepOff(1, false);
            y.days(n);
            DUE.is("HOUR in " + n, x.then(0, n, 0), y.part(0, 0));
            DUE.is("HOUR in " + n, x.then(1, n, 0), y.part(1, 0));
            DUE.is("who in " + n, x.then(0, n, 1), y.part(0, 3));
            DUE.is("who in " + n, x.then(1, n, 1), y.part(1, 3));
            DUE.is("MARKS in " + n, x.marksIn(0, n), y.person(0, 3));
            DUE.is("MARKS in " + n, x.marksIn(1, n), y.person(1, 3));
        }
        DUE.says("IN n DAYS of a PART: what 0 HOUR, 1 who is CAST (-2: nobody); NONE: no such ones.");
        DUE.is("nobody", Due.show("part p 7 1 1;").then(0, 60, 1), -2);
        DUE.is("nobody's HOUR", Due.show("part p 7 1 1;").then(0, 60, 0), 7);
        UnderstudyShow two = Due.show(TWO_FOR_TWO);
        wrongPairs("then HOUR", (part, n) -> two.then(part, n, 0), 2, 61, 0, 0);
        wrongPairs("then who", (part, n) -> two.then(part, n, 1), 2, 61, 0, 0);
        wrongPairs("then what", (part, what) -> two.then(part, 1, what), 2, 2, 0, 0);
        DUE.says("IN n DAYS MARKS of a PERSON; NONE: no such ones.");
        wrongPairs("marksIn", two::marksIn, 2, 61, 0, 0);
        DUE.is("of a new object", new UnderstudyShow().marksIn(0, 1), -1);
    }

    private static void stars() {
        DUE.says("STAR in n DAYS (1 .. 60): who is MARKED most more, of alike ones the first.");
        UnderstudyShow x = Due.show(TWO_FOR_TWO + "person c 5 1 1; marks = if which < 1 then 9 - day else day;");
        DUE.is("in 1 DAY", x.star(1, 0), 0);
        DUE.is("in 1 DAY", x.star(1, 1), 9);
        // in ten DAYS 45 each
        DUE.is("in 9 DAYS", x.star(9, 0), 0);
        DUE.is("of alike ones the first", x.star(10, 0), 0);
        DUE.is("of alike ones the first", x.star(10, 1), 45);
        DUE.is("in 11 DAYS", x.star(11, 0), 1);
        DUE.is("in 11 DAYS", x.star(11, 1), 55);
        DUE.is("in 60 DAYS", x.star(60, 1), 59 * 60 / 2);
        x.days(10);
        DUE.is("more, not in all", x.star(1, 1), 10);
        UnderstudyShow none = Due.show("person a 1 1 1; person b 1 1 1;");
        DUE.is("nobody is MARKED: who", none.star(60, 0), 0);
        DUE.is("nobody is MARKED: how much", none.star(60, 1), 0);
        none.keepOff(0, true);
        DUE.is("one kept off is the first, too", none.star(60, 0), 0);
        DUE.says("STAR: what 0 who, 1 how much more; -2: no PEOPLE; NONE: no such ones.");
        DUE.is("no PEOPLE: who", Due.show("part p 1 1 1;").star(1, 0), -2);
        DUE.is("no PEOPLE: how much", Due.show("part p 1 1 1;").star(60, 1), -2);
        DUE.is("of a new object", new UnderstudyShow().star(1, 0), -2);
        wrongPairs("star", x::star, 60, 2, 1, 0);
    }

    private static boolean isWholeBehind(int seed, int day, int n, int chance) {
        boolean whole = true;
        for (int i = 0; i < n; i++) {
            whole &= Lots.lot(seed, 8 * (day + i)) >= chance;
        }
        return whole;
    }

    private static void years() {
        DUE.says("YEAR by s SEEDS (1 .. 20) from the text's SEED on: in how many of them all PARTS are CAST in n DAYS "
            + "(0 .. 60).");
        int[] seeds = {0, 17, 9979, 9980, 9981, 9999};
        int[] ns = {0, 1, 2, 7, 59, 60};
        for (int seed : seeds) {
            for (int n : ns) {
                int chance = n < 10 ? 20 : 3;
                // once a DOG ran out, nobody is the PART for ever
                UnderstudyShow x = Due.show("person a 5 1 1; part p 5 1 1; stands = 9 - apart * 9; seed " + seed + "; dogs = " + chance + ";");
                int whole = 0;
                for (int s = 1; s <= 20; s++) {
                    whole += isWholeBehind(seed + s - 1, 0, n, chance) ? 1 : 0;
                    DUE.is("year(" + n + ", " + s + ") from " + seed + " on", x.year(n, s), whole);
                }
            }
        }
        // all DAYS at once and from the fifth one on are by other LOTS
        UnderstudyShow x = Due.show("person a 5 1 1; part p 5 1 1; stands = 9 - apart * 9; dogs = if day < 4 then 0 else 50;");
        x.days(4);
        int whole = 0;
        for (int seed = 0; seed < 20; seed++) {
            whole += isWholeBehind(seed, 4, 1, 50) ? 1 : 0;
        }
        DUE.is("from the fifth day on", x.year(1, 20), whole);
        DUE.is("one of two PARTS", Due.show("person a 5 1 1; part p 5 1 1; part q 5 1 1;").year(0, 20), 0);
        DUE.says("YEAR; NONE: no such ones.");
        wrongPairs("year", x::year, 61, 20, 0, 1);
        DUE.is("of a new object", new UnderstudyShow().year(60, 20), 20);
        DUE.is("of a new object", new UnderstudyShow().year(61, 20), -1);
    }

    public static void main(String[] args) {
        nothingHappens();
        dogsInTwoAlone();
        bestHours();
        trades();
        keys();
        crowds();
        habitsAndRegulars();
        settling();
        missing();
        drifting();
        meeting();
        goingAway();
        inDays();
        stars();
        years();
        DUE.end();
    }
}
