/** The edges that the document names of LAWS, of CAST, of a DAY and of things done (promises 6 to 13), sentence by sentence. */
public final class EdgesOfDaysTest {
    private static final Due DUE = new Due("EdgesOfDaysTest");
    private static final int MAX = Integer.MAX_VALUE;
    private static final int MIN = Integer.MIN_VALUE;
    /** 2 to the 31st: the least int. */
    private static final String LEAST_INT = "256 * 256 * 256 * 128";

    private static void law(String law, int want) {
        UnderstudyShow x = Due.show("person a 22 7 1; part o 0 0 0; part q 3 2 5; marks = " + law + ";");
        DUE.is("MARKS = " + law, x.tells(0, 1, 2), want);
    }

    private static void ifs() {
        DUE.says("LAWS: the E of the first if that holds (one less than the other), else the last one;");
        law("if 1 < 2 then 3 else 4", 3);
        law("if 2 < 2 then 3 else 4", 4);
        law("if 3 < 2 then 3 else 4", 4);
        law("if 0 - 1 < 0 then 3 else 4", 3);
        law("if 0 < 0 - 1 then 3 else 4", 4);
        for (int holds = 0; holds <= 4; holds++) {
            StringBuilder first = new StringBuilder();
            StringBuilder from = new StringBuilder();
            for (int i = 0; i < 4; i++) {
                first.append(i == holds ? "if 1 < 2" : "if 2 < 2").append(" then ").append(10 + i).append(" else ");
                from.append(i >= holds ? "if 1 < 2" : "if 2 < 2").append(" then ").append(10 + i).append(" else ");
            }
            law(first + "14", 10 + holds);
            law(from + "14", 10 + holds);
        }
    }

    private static void wrapping() {
        DUE.says("ints of 32 bits that wrap, / rounded towards 0;");
        law("if " + LEAST_INT + " < 0 then 1 else 2", 1);
        law("if " + LEAST_INT + " - 1 < 0 then 1 else 2", 2);
        law("if " + LEAST_INT + " - 1 + 1 < 0 then 1 else 2", 1);
        law("256 * 256 * 256 * 256 + 7", 7);
        law("9999 * 9999 * 9999 / 9999 / 9999", 0);
        law("if 0 - (" + LEAST_INT + ") < 0 then 1 else 2", 1);
        law("if " + LEAST_INT + " / (0 - 1) < 0 then 1 else 2", 1);
        law("0 - 7 / 2 + 9", 6);
        law("(0 - 7) / 2 + 9", 6);
        law("7 / (0 - 2) + 9", 6);
        law("(0 - 7) / (0 - 2) + 9", 12);
        law("(0 - 1) / 2 + 9", 9);
        law("1 / 2", 0);
        law("2 / 2", 1);
        law("3 / 2", 1);
        law("0 / 5", 0);
    }

    private static void dividedByZero() {
        DUE.says("a LAW in which something that is looked at is divided by 0 is 0.");
        law("1 / 0", 0);
        law("0 / 0", 0);
        law("9 + 1 / 0", 0);
        law("1 / 0 * 0 + 9", 0);
        law("9 / (which - 1)", 0);
        law("9 / which", 9);
        law("9 / (1 / 2)", 0);
        law("if 1 / 0 < 5 then 3 else 4", 0);
        law("if 0 - 5 < 1 / 0 then 3 else 4", 0);
        law("if 1 < 2 then 1 / 0 else 4", 0);
        law("if 2 < 2 then 4 else 1 / 0", 0);
        law("if 2 < 2 then 4 else if 1 / 0 < 1 then 5 else 6", 0);
        DUE.says("something that is looked at");
        law("if 1 < 2 then 3 else 1 / 0", 3);
        law("if 2 < 2 then 1 / 0 else 4", 4);
        law("if 1 < 2 then 3 else if 1 / 0 < 1 then 1 else 2", 3);
        law("if 2 < 2 then 1 / 0 else if 1 < 2 then 7 else 1 / 0", 7);
        UnderstudyShow x = Due.show("person a 5 1 1; part p 4 1 1; stands = 5 / 0; least 0; writes = 5 / 0;"
            + "marks = 5 / 0; dogs = 5 / 0;");
        DUE.is("STANDS", x.tells(0, 0, 0), 0);
        DUE.is("WRITES", x.tells(0, 0, 1), 0);
        DUE.is("MARKS", x.tells(0, 0, 2), 0);
        DUE.is("DOGS", x.part(0, 5), 0);
        x.days(3);
        DUE.is("seen", x.person(0, 6), 3);
        DUE.is("no MARKS", x.person(0, 3), 0);
        DUE.is("nothing written", x.part(0, 0), 4);
    }

    private static void hoursApart() {
        DUE.says("Of a PERSON and a PART: apart: how many hours their HOURS are apart, the shorter way round the day "
            + "(12 at most);");
        for (int hour = 0; hour < 24; hour++) {
            UnderstudyShow x = Due.show("person a " + hour + " 1 1; part p " + hour + " 1 1; marks = apart;");
            for (int more = 0; more < 24; more++) {
                int other = (hour + more) % 24;
                x.write(0, other);
                int want = more <= 12 ? more : 24 - more;
                DUE.is("apart of " + hour + " and " + other, x.tells(0, 0, 2), want);
                DUE.is("hours apart of " + hour + " and " + other, x.tells(0, 0, 4), want);
            }
        }
    }

    private static void kindsAndSizes() {
        DUE.says("unlike, odd: how much their KINDS, SIZES differ;");
        for (int one = 0; one < 10; one++) {
            for (int other = 0; other < 10; other++) {
                UnderstudyShow x = Due.show("person a 1 " + one + " " + other + "; part p 1 " + other + " 5; writes = unlike; marks = odd;");
                DUE.is("unlike of " + one + " and " + other, x.tells(0, 0, 1), Math.abs(one - other));
                DUE.is("odd of " + other + " and 5", x.tells(0, 0, 2), Math.abs(other - 5));
            }
        }
    }

    private static void theOtherFacts() {
        DUE.says("day; seen: how often that one was that PART so far; hour, kind, size: the PERSON's; which: the "
            + "PART's number.");
        UnderstudyShow x = Due.show("person a 5 1 2; person b 6 3 4; part p 5 5 6; part q 6 7 8; stands = 50 + seen;"
            + "marks = day;"
            + "writes = if 98 < hour then 1 else seen;");
        DUE.is("day 0", x.tells(0, 0, 2), 0);
        DUE.is("seen 0", x.tells(0, 0, 1), 0);
        x.days(2);
        x.keepOff(0, true);
        x.days(60);
        DUE.is("day", x.tells(0, 0, 2), 62);
        DUE.is("a as p", x.tells(0, 0, 1), 2);
        DUE.is("a as q", x.tells(0, 1, 1), 0);
        DUE.is("b as p", x.tells(1, 0, 1), 60);
        DUE.is("b as q", x.tells(1, 1, 1), 2);
        x = Due.show("person a 5 1 2; person b 6 3 4; part p 9 5 6; part q 8 7 8; stands = hour; writes = kind;"
            + "marks = 10 * size + which;");
        DUE.is("hour", x.tells(1, 0, 0), 6);
        DUE.is("kind", x.tells(1, 0, 1), 3);
        DUE.is("size and which", x.tells(1, 0, 2), 40);
        DUE.is("size and which", x.tells(0, 1, 2), 21);
    }

    private static void heldLaws() {
        DUE.says("STANDS, held to 0 .. 99; WRITES, MARKS, held to 0 .. 99; DOGS, held to 0 .. 100.");
        String[] worths = {"0 - 9999", "0 - 1", "0", "1", "98", "99", "100", "101", "9999", LEAST_INT, LEAST_INT + " - 1"};
        int[] held = {0, 0, 0, 1, 98, 99, 99, 99, 99, 0, 99};
        for (int i = 0; i < worths.length; i++) {
            String worth = worths[i];
            UnderstudyShow x = Due.show("person a 5 1 1; part p 5 1 1; least 0; stands = " + worth + "; writes = " + worth
                + "; marks = " + worth + "; dogs = " + worth + ";");
            DUE.is("STANDS = " + worth, x.tells(0, 0, 0), held[i]);
            DUE.is("WRITES = " + worth, x.tells(0, 0, 1), held[i]);
            DUE.is("MARKS = " + worth, x.tells(0, 0, 2), held[i]);
            int dogs = held[i] == 99 && !worth.equals("99") ? 100 : held[i];
            DUE.is("DOGS = " + worth, x.part(0, 5), dogs);
        }
    }

    private static int dogsBehind(int seed, int day, int part, int chance) {
        UnderstudyShow x = Due.show("person a 5 1 1; person b 5 1 1; person c 5 1 1; part p 5 1 1; part q 5 1 1; part r 5 1 1;"
            + "stands = 50; seed " + seed + "; dogs = if day < " + day + " then 0 else if which < " + part
            + " then 0 else if " + part + " < which then 0 else " + chance + ";");
        for (int gone = 0; gone < day; gone += 60) {
            x.days(Math.min(60, day - gone));
        }
        x.days(1);
        return x.count(7);
    }

    private static void lots() {
        DUE.says("LOT n of a SEED and a which: h is the SEED; for each of 143, which: h becomes (h and it, each bit "
            + "of which is in just one) times 1103515245 and 12345 more, then h and h moved 15 bits down (zeros come "
            + "in), likewise; the rest of h, moved 1 bit down likewise, by n (32 bits that wrap).");
        int[] seeds = {0, 1, 2, 143, 4321, 9998, 9999};
        int[] days = {0, 1, 2, 31, 60, 255, 300};
        for (int seed : seeds) {
            for (int day : days) {
                for (int part = 0; part < 3; part++) {
                    int lot = Lots.lot(seed, 8 * day + part);
                    String which = "SEED " + seed + ", day " + day + ", PART " + part;
                    DUE.is("no DOG by the LOT itself: " + which, dogsBehind(seed, day, part, lot), 0);
                    DUE.is("a DOG by one more: " + which, dogsBehind(seed, day, part, lot + 1), 1);
                }
            }
        }
    }

    private static int castOf(String stands, String least) {
        return Due.show("person a 5 1 1; person b 6 1 1; person c 7 1 1; part p 5 1 1; stands = " + stands + ";" + least).part(0, 3);
    }

    private static void casting() {
        DUE.says("CAST are the PARTS of a day, PART by PART: that PERSON is it who is not kept off, is no other PART "
            + "yet, and STANDS for it by LEAST or more, of these the one by most, of alike ones the first; nobody, "
            + "if there is none.");
        DUE.is("of alike ones the first", castOf("9", ""), 0);
        DUE.is("the one by most", castOf("hour", ""), 2);
        DUE.is("of alike ones by most the first", castOf("if hour < 6 then 3 else 4", ""), 1);
        DUE.is("by LEAST", castOf("9", "least 9;"), 0);
        DUE.is("one less than LEAST", castOf("8", "least 9;"), -2);
        DUE.is("one by LEAST", castOf("hour", "least 7;"), 2);
        DUE.is("none by LEAST", castOf("hour", "least 8;"), -2);
        DUE.is("by 0", castOf("0", "least 0;"), 0);
        DUE.is("by 0 of LEAST 1", castOf("0", ""), -2);
        UnderstudyShow x = Due.show("person a 5 1 1; person b 5 1 1; part p 5 1 1; part q 5 1 1; part r 5 1 1; stands = 9;");
        int[] want = {0, 1, -2};
        for (int part = 0; part < 3; part++) {
            DUE.is("no other PART yet: " + part, x.part(part, 3), want[part]);
        }
        x.keepOff(0, true);
        int[] without = {1, -2, -2};
        for (int part = 0; part < 3; part++) {
            DUE.is("not kept off: " + part, x.part(part, 3), without[part]);
        }
        x.keepOff(1, true);
        DUE.is("all kept off", x.part(0, 3), -2);
        x = Due.show("person a 5 1 1; person b 5 1 1; part p 5 1 1; part q 5 1 1;"
            + "stands = if hour < 6 then 5 + which * 9 else 1;");
        DUE.is("PART by PART, not by most of all", x.part(0, 3), 0);
        DUE.is("nobody of no PEOPLE", Due.show("part p 1 1 1; least 0;").part(0, 3), -2);
        DUE.is("all seven", Due.show("person a 1 1 1; person b 1 1 1; person c 1 1 1; person d 1 1 1;"
            + "person e 1 1 1; person f 1 1 1;"
            + "person g 2 1 1; part p 2 1 1;").part(0, 3), 6);
    }

    private static void asItBegan() {
        DUE.says("A DAY, all by how it was as it began:");
        UnderstudyShow x = Due.show("person a 5 1 1; part p 4 1 1; stands = 50; writes = 1 - seen;"
            + "marks = 10 * seen + apart; dogs = 100 * (1 - apart);");
        x.days(1);
        DUE.is("MARKS by seen and apart as they were", x.person(0, 3), 1);
        DUE.is("written by seen as it was, no DOG by apart as it was", x.part(0, 0), 5);
        x.days(1);
        DUE.is("MARKS", x.person(0, 3), 11);
        DUE.is("a DOG, nothing written", x.part(0, 0), 6);
        DUE.is("DOGS", x.count(7), 1);
        // q's PERSON is not looked for anew when p goes away from a
        x = Due.show("person a 5 1 1; person b 7 1 1; part p 5 1 1; part q 6 1 1; dogs = 100;");
        x.days(1);
        DUE.is("a was p", x.tells(0, 0, 3), 1);
        DUE.is("b was q", x.tells(1, 1, 3), 1);
    }

    private static void marking() {
        DUE.says("each who is CAST is seen once more as that PART, and is MARKED: what MARKS tells (999,999 at most, "
            + "each one);");
        UnderstudyShow x = Due.show("person a 5 1 1; person b 5 1 1; person c 5 1 1; part p 5 1 1; part q 5 1 1;"
            + "marks = 98 + which;");
        for (int i = 0; i < 168; i++) {
            x.days(60);
        }
        DUE.is("a", x.person(0, 3), 98 * 10080);
        DUE.is("b", x.person(1, 3), 99 * 10080);
        x.days(20);
        DUE.is("b by one day less", x.person(1, 3), 999900);
        DUE.is("b in one day", x.marksIn(1, 1), 999999);
        x.days(1);
        DUE.is("b to the brim", x.person(1, 3), 999999);
        x.days(1);
        DUE.is("b at most", x.person(1, 3), 999999);
        DUE.is("a goes on", x.person(0, 3), 98 * 10102);
        x.days(60);
        x.days(42);
        DUE.is("a by one day less", x.person(0, 3), 999992);
        DUE.is("how much more, held", x.star(1, 1), 7);
        x.days(1);
        DUE.is("a at most", x.person(0, 3), 999999);
        DUE.is("c, who is nothing", x.person(2, 3), 0);
        DUE.is("each one, not all", x.count(5), 1999998);
        DUE.is("seen goes on", x.tells(0, 0, 3), 10205);
        DUE.is("c is not seen", x.person(2, 6), 0);
    }

    private static void goes(int person, int part, int want) {
        UnderstudyShow x = Due.show("person a " + person + " 1 1; part p " + part + " 1 1; stands = 50; writes = 1;");
        x.days(1);
        DUE.is("a PART at " + part + " by one at " + person, x.part(0, 0), want);
    }

    private static void writing() {
        DUE.says("a PART whose PERSON's WRITES is more than 0, and whose HOUR is not theirs, goes by an hour to "
            + "theirs, the shorter way round (of alike ways to the later hour);");
        for (int part = 0; part < 24; part++) {
            for (int more = 0; more < 24; more++) {
                int step = more == 0 ? 0 : more <= 12 ? 1 : 23;
                goes((part + more) % 24, part, (part + step) % 24);
            }
        }
        String[] writes = {"0 - 1", "0", "1", "99"};
        int[] hours = {3, 3, 4, 4};
        for (int i = 0; i < writes.length; i++) {
            UnderstudyShow x = Due.show("person a 6 1 1; part p 3 1 1; part q 4 1 1; stands = 50; writes = " + writes[i] + ";");
            x.days(1);
            DUE.is("WRITES = " + writes[i], x.part(0, 0), hours[i]);
            DUE.is("nobody's PART stays", x.part(1, 0), 4);
            DUE.is("the PERSON stays", x.person(0, 0), 6);
        }
    }

    private static void aDog(int hour, int person, int writes, int want) {
        UnderstudyShow x = Due.show("person a " + person + " 1 1; part p " + hour + " 1 1; stands = 50; dogs = 100;"
            + "writes = " + writes + ";");
        x.days(1);
        DUE.is("a DOG of a PART at " + hour + " by one at " + person + ", WRITES " + writes, x.part(0, 0), want);
    }

    private static void dogs() {
        DUE.says("then, if a DOG runs out (LOT 100 of the SEED and 8 * the day and the PART is less than what DOGS "
            + "tells of its PERSON; nobody: no), the PART goes an hour later, too.");
        for (int hour = 0; hour < 24; hour++) {
            aDog(hour, hour, 0, (hour + 1) % 24);
            aDog(hour, hour, 1, (hour + 1) % 24);
            aDog(hour, (hour + 5) % 24, 1, (hour + 2) % 24);
            aDog(hour, (hour + 19) % 24, 1, hour);
        }
        // the LOT of SEED 0 is 90 on day 0, 37 on day 1, 1 on day 2
        int[] chances = {0, 1, 2, 37, 38, 90, 91, 99, 100};
        int[] ran = {0, 0, 1, 1, 2, 2, 3, 3, 3};
        for (int i = 0; i < chances.length; i++) {
            UnderstudyShow x = Due.show("person a 5 1 1; part p 5 1 1; part q 5 1 1; stands = 50; dogs = " + chances[i] + ";");
            x.days(3);
            DUE.is("DOGS = " + chances[i], x.count(7), ran[i]);
            DUE.is("the HOUR by DOGS = " + chances[i], x.part(0, 0), 5 + ran[i]);
            DUE.is("nobody: no, by DOGS = " + chances[i], x.part(1, 0), 5);
        }
        // a LOT can be 0, and is not less than 0
        int seed = 0;
        while (Lots.lot(seed, 0) != 0) {
            seed++;
        }
        DUE.is("LOT 0, DOGS 0, SEED " + seed, dogsBehind(seed, 0, 0, 0), 0);
        DUE.is("LOT 0, DOGS 1, SEED " + seed, dogsBehind(seed, 0, 0, 1), 1);
        while (Lots.lot(seed, 0) != 99) {
            seed++;
        }
        DUE.is("LOT 99, DOGS 99, SEED " + seed, dogsBehind(seed, 0, 0, 99), 0);
        DUE.is("LOT 99, DOGS 100, SEED " + seed, dogsBehind(seed, 0, 0, 100), 1);
    }

    private static void theNextDay() {
        DUE.says("DAYS are counted on.");
        UnderstudyShow old = new UnderstudyShow();
        for (int i = 1; i <= 500; i++) {
            DUE.is("days(60)", old.days(60), 60 * i);
        }
        DUE.says("It is the next day.");
        UnderstudyShow x = Due.show("person a 5 1 1; part p 5 1 1; marks = day;");
        x.days(1);
        DUE.is("the day", x.count(2), 1);
        DUE.is("MARKS of day 0", x.person(0, 3), 0);
        x.days(2);
        DUE.is("MARKS of the days 1 and 2", x.person(0, 3), 3);
        DUE.is("a day without PARTS", new UnderstudyShow().days(1), 1);
    }

    private static void byHand() {
        DUE.says("By hand: a PERSON's HOUR, a PART's HOUR is MOVED; one is kept off, or no more; DAYS go by.");
        UnderstudyShow x = Look.busy();
        int[] before = {x.person(1, 0), x.part(0, 0), x.part(1, 0), x.count(2)};
        x.move(0, 13);
        DUE.are("nothing else is MOVED", new int[] {x.person(1, 0), x.part(0, 0), x.part(1, 0), x.count(2)}, before);
        x.write(1, 14);
        before[2] = 14;
        DUE.are("nothing else is MOVED", new int[] {x.person(1, 0), x.part(0, 0), x.part(1, 0), x.count(2)}, before);
        DUE.is("nor the HOUR as told", x.part(1, 4), 20);
        x.keepOff(1, false);
        x.keepOff(0, true);
        DUE.are("nor by one kept off", new int[] {x.person(1, 0), x.part(0, 0), x.part(1, 0), x.count(2)}, before);
        int marks = x.person(0, 3);
        x.days(4);
        DUE.is("one kept off is not MARKED", x.person(0, 3), marks);
    }

    private static void ofAPerson() {
        DUE.says("Of a PERSON: what 0 HOUR, 1 KIND, 2 SIZE, 3 MARKS so far, 4: 1 kept off, else 0, 5 as what CAST now "
            + "(-2: nothing), 6 how often seen so far, as any PART. NONE for others.");
        UnderstudyShow x = Due.show("person a 0 9 0; person b 23 0 9; part p 0 9 0; part q 1 9 0; marks = 3;");
        int[][] begun = {{0, 9, 0, 0, 0, 0, 0}, {23, 0, 9, 0, 0, -2, 0}};
        people("as it begins", x, begun);
        x.days(2);
        x.move(0, 1);
        x.write(0, 13);
        x.days(1);
        int[][] then = {{1, 9, 0, 9, 0, 1, 3}, {23, 0, 9, 0, 0, -2, 0}};
        people("as two PARTS", x, then);
        x.keepOff(0, true);
        int[][] off = {{1, 9, 0, 9, 1, -2, 3}, {23, 0, 9, 0, 0, -2, 0}};
        people("kept off", x, off);
        int[] wrong = {-1, -2, 2, 6, 7, 24, MAX, MIN};
        for (int other : wrong) {
            DUE.is("person(" + other + ", 0)", x.person(other, 0), -1);
            DUE.is("person(" + other + ", 5)", x.person(other, 5), -1);
        }
        int[] wrongWhats = {-1, -2, 7, 8, MAX, MIN};
        for (int other : wrongWhats) {
            DUE.is("person(0, " + other + ")", x.person(0, other), -1);
            DUE.is("person(9, " + other + ")", x.person(9, other), -1);
        }
    }

    private static void people(String when, UnderstudyShow x, int[][] want) {
        for (int person = 0; person < want.length; person++) {
            for (int what = 0; what < 7; what++) {
                DUE.is(when + ", person(" + person + ", " + what + ")", x.person(person, what), want[person][what]);
            }
        }
    }

    private static void ofAPart() {
        DUE.says("Of a PART: what 0 HOUR, 1 KIND, 2 SIZE, 3 who is CAST now (-2: nobody), 4 HOUR as told in the text, "
            + "5 DOGS of who is CAST now (nobody: 0). NONE for others.");
        UnderstudyShow x = Due.show("person a 1 1 1; person b 23 9 0; part p 23 9 0; part q 0 0 9; dogs = hour;");
        int[][] begun = {{23, 9, 0, 1, 23, 23}, {0, 0, 9, -2, 0, 0}};
        parts("as it begins", x, begun);
        x.write(0, 1);
        x.write(1, 23);
        x.move(0, 23);
        int[][] then = {{1, 9, 0, 1, 23, 23}, {23, 0, 9, 0, 0, 23}};
        parts("written", x, then);
        x.keepOff(1, true);
        int[][] off = {{1, 9, 0, -2, 23, 0}, {23, 0, 9, 0, 0, 23}};
        parts("with one kept off", x, off);
        UnderstudyShow first = Due.show("person a 5 1 1; part p 5 1 1; dogs = 7 + hour;");
        DUE.is("DOGS are asked for first", first.part(0, 5), 12);
        first.keepOff(0, true);
        DUE.is("DOGS of nobody now", first.part(0, 5), 0);
        first.undo();
        DUE.is("DOGS again", first.part(0, 5), 12);
        int[] wrong = {-1, -2, 2, 5, 6, 24, MAX, MIN};
        for (int other : wrong) {
            DUE.is("part(" + other + ", 0)", x.part(other, 0), -1);
            DUE.is("part(" + other + ", 3)", x.part(other, 3), -1);
            DUE.is("part(" + other + ", 5)", x.part(other, 5), -1);
        }
        int[] wrongWhats = {-1, -2, 6, 7, MAX, MIN};
        for (int other : wrongWhats) {
            DUE.is("part(0, " + other + ")", x.part(0, other), -1);
        }
    }

    private static void parts(String when, UnderstudyShow x, int[][] want) {
        for (int part = 0; part < want.length; part++) {
            for (int what = 0; what < 6; what++) {
                DUE.is(when + ", part(" + part + ", " + what + ")", x.part(part, what), want[part][what]);
            }
        }
    }

    private static void ofBoth() {
        DUE.says("Of a PERSON and a PART now: what 0 STANDS, 1 WRITES, 2 MARKS, 3 how often seen so far, 4 how many "
            + "hours apart. NONE for others.");
        UnderstudyShow x = Due.show("person a 1 1 1; person b 23 1 1; person c 6 6 6; part p 0 1 1; part q 13 1 1;"
            + "stands = 20 - apart; writes = 5 + which; marks = hour;");
        int[][] want = {{19, 5, 1, 0, 1}, {8, 6, 1, 0, 12}, {19, 5, 23, 0, 1}, {10, 6, 23, 0, 10}, {14, 5, 6, 0, 6}, {13, 6, 6, 0, 7}};
        for (int pair = 0; pair < 6; pair++) {
            for (int what = 0; what < 5; what++) {
                DUE.is("tells(" + pair / 2 + ", " + pair % 2 + ", " + what + ")", x.tells(pair / 2, pair % 2, what), want[pair][what]);
            }
        }
        x.keepOff(0, true);
        DUE.is("of one kept off, too", x.tells(0, 0, 0), 19);
        int[] wrong = {-1, -2, MAX, MIN};
        for (int other : wrong) {
            DUE.is("no such PERSON", x.tells(other, 0, 0), -1);
            DUE.is("no such PART", x.tells(0, other, 0), -1);
            DUE.is("no such what", x.tells(0, 0, other), -1);
        }
        DUE.is("no such PERSON", x.tells(3, 0, 0), -1);
        DUE.is("no such PERSON", x.tells(3, 0, 3), -1);
        DUE.is("no such PART", x.tells(0, 2, 0), -1);
        DUE.is("no such PART", x.tells(2, 2, 4), -1);
        DUE.is("no such what", x.tells(0, 0, 5), -1);
    }

    private static void moving() {
        DUE.says("MOVED to an HOUR: true; false, and nothing happens: it is there, no such ones.");
        for (int hour = 0; hour < 24; hour++) {
            UnderstudyShow x = Look.busy();
            boolean there = hour == 6;
            DUE.is("move(0, " + hour + ")", x.move(0, hour), !there);
            DUE.is("HOUR", x.person(0, 0), hour);
            DUE.is("things that can be undone", x.count(9), there ? 4 : 5);
        }
        DUE.is("one kept off is MOVED, too", Look.busy().move(1, 0), true);
        int[][] refused = {{0, 6}, {1, 22}, {0, 24}, {0, 25}, {0, -1}, {0, MAX}, {0, MIN}, {2, 1}, {7, 1}, {-1, 1}, {MAX, 1}, {MIN, 1}};
        for (int[] pair : refused) {
            String call = "move(" + pair[0] + ", " + pair[1] + ")";
            DUE.is(call, Look.busy().move(pair[0], pair[1]), false);
            Look.nothingHappens(DUE, call, x -> x.move(pair[0], pair[1]));
        }
    }

    private static void writingByHand() {
        DUE.says("A PART is MOVED: likewise.");
        int there = Look.busy().part(0, 0);
        for (int hour = 0; hour < 24; hour++) {
            UnderstudyShow x = Look.busy();
            DUE.is("write(0, " + hour + ")", x.write(0, hour), hour != there);
            DUE.is("HOUR", x.part(0, 0), hour);
            DUE.is("things that can be undone", x.count(9), hour == there ? 4 : 5);
        }
        int[][] refused = {{0, there}, {1, 21}, {0, 24}, {0, 25}, {0, -1}, {0, MAX}, {0, MIN}, {2, 1}, {6, 1}, {-1, 1}, {MAX, 1}, {MIN, 1}};
        for (int[] pair : refused) {
            String call = "write(" + pair[0] + ", " + pair[1] + ")";
            DUE.is(call, Look.busy().write(pair[0], pair[1]), false);
            Look.nothingHappens(DUE, call, x -> x.write(pair[0], pair[1]));
        }
    }

    private static void keepingOff() {
        DUE.says("Kept off, or no more: true; false, and nothing happens: it is so, no such PERSON.");
        UnderstudyShow x = Due.show("person a 1 1 1; person b 1 1 1; person c 1 1 1; person d 1 1 1; person e 1 1 1;"
            + "person f 1 1 1; person g 1 1 1;");
        for (int person = 0; person < 7; person++) {
            DUE.is("keepOff", x.keepOff(person, true), true);
            DUE.is("kept off", x.count(6), (2 << person) - 1);
            DUE.is("keepOff once more", x.keepOff(person, true), false);
        }
        for (int person = 0; person < 7; person++) {
            DUE.is("no more", x.keepOff(person, false), true);
            DUE.is("kept off", x.count(6), 127 - ((2 << person) - 1));
            DUE.is("no more once more", x.keepOff(person, false), false);
        }
        DUE.is("things that can be undone", x.count(9), 14);
        int[] refused = {-1, 2, 7, 31, 32, 33, MAX, MIN};
        for (int person : refused) {
            for (int off = 0; off < 2; off++) {
                boolean isOff = off == 1;
                String call = "keepOff(" + person + ", " + isOff + ")";
                DUE.is(call, Look.busy().keepOff(person, isOff), false);
                Look.nothingHappens(DUE, call, y -> y.keepOff(person, isOff));
            }
        }
        DUE.is("it is so", Look.busy().keepOff(0, false), false);
        Look.nothingHappens(DUE, "keepOff(0, false)", y -> y.keepOff(0, false));
        DUE.is("it is so", Look.busy().keepOff(1, true), false);
        Look.nothingHappens(DUE, "keepOff(1, true)", y -> y.keepOff(1, true));
    }

    private static void daysGoBy() {
        DUE.says("n DAYS (0 .. 60; 0 is no thing done) go by: which it is; NONE, and nothing happens: no such n.");
        for (int n = 0; n <= 60; n++) {
            UnderstudyShow x = Look.busy();
            DUE.is("days(" + n + ")", x.days(n), 3 + n);
            DUE.is("the day", x.count(2), 3 + n);
            DUE.is("things that can be undone", x.count(9), n == 0 ? 4 : 5);
            UnderstudyShow y = Look.busy();
            for (int i = 0; i < n; i++) {
                y.days(1);
            }
            DUE.are("as one by one, " + n, java.util.Arrays.copyOfRange(Look.at(x), 14, 40), java.util.Arrays.copyOfRange(Look.at(y), 14, 40));
        }
        Look.nothingHappens(DUE, "days(0)", x -> x.days(0));
        int[] refused = {-1, -60, 61, 62, MAX, MIN};
        for (int n : refused) {
            DUE.is("days(" + n + ")", Look.busy().days(n), -1);
            Look.nothingHappens(DUE, "days(" + n + ")", x -> x.days(n));
        }
        DUE.is("days(0) of a new object", new UnderstudyShow().days(0), 0);
    }

    private static void undoing() {
        DUE.says("The last thing done (move, write, keepOff, days) is undone: true; false: there is none (the last 40 "
            + "can be).");
        DUE.is("of a new object", new UnderstudyShow().undo(), false);
        UnderstudyShow fresh = Due.show("person a 1 1 1; part p 1 1 1;");
        DUE.is("of a new text", fresh.undo(), false);
        fresh.tell(0, 1, true);
        fresh.hold(0);
        fresh.feed(1, 2, 3, 4, 5);
        fresh.days(0);
        DUE.is("of no thing done", fresh.undo(), false);
        DUE.is("what is TOLD stays", fresh.count(10), 1);
        thingsUndone();
        for (int done = 38; done <= 43; done++) {
            UnderstudyShow x = Due.show("person a 0 1 1; part p 0 1 1;");
            for (int i = 1; i <= done; i++) {
                DUE.is("move", x.move(0, i % 24), true);
            }
            DUE.is("things that can be undone behind " + done, x.count(9), Math.min(40, done));
            for (int i = 1; i <= Math.min(40, done); i++) {
                DUE.is("undo " + i + " of " + done, x.undo(), true);
                DUE.is("HOUR", x.person(0, 0), (done - i) % 24);
            }
            DUE.is("the last 40 of " + done, x.undo(), false);
            DUE.is("HOUR", x.person(0, 0), Math.max(0, done - 40));
            DUE.is("things that can be undone", x.count(9), 0);
        }
    }

    private static void thingsUndone() {
        String[] names = {"move", "write", "keepOff", "keepOff no more", "days"};
        for (int thing = 0; thing < names.length; thing++) {
            UnderstudyShow x = Look.busy();
            if (thing == 0) {
                x.move(1, 3);
            } else if (thing == 1) {
                x.write(0, 17);
            } else if (thing == 2) {
                x.keepOff(0, true);
            } else if (thing == 3) {
                x.keepOff(1, false);
            } else {
                x.days(60);
            }
            DUE.is("things that can be undone", x.count(9), 5);
            DUE.is("undo of " + names[thing], x.undo(), true);
            DUE.are("undone: " + names[thing], Look.deep(x), Look.deep(Look.busy()));
        }
        UnderstudyShow x = Look.busy();
        x.undo();
        x.undo();
        x.undo();
        x.undo();
        DUE.is("there is none", x.undo(), false);
        DUE.is("the first day again", x.count(2), 0);
        DUE.is("nobody seen", x.person(0, 6) + x.person(1, 6), 0);
        DUE.is("no DOGS", x.count(7), 0);
        DUE.is("a SLOT still holds", x.count(11), 1);
    }

    public static void main(String[] args) {
        ifs();
        wrapping();
        dividedByZero();
        hoursApart();
        kindsAndSizes();
        theOtherFacts();
        heldLaws();
        lots();
        casting();
        asItBegan();
        marking();
        writing();
        dogs();
        theNextDay();
        byHand();
        ofAPerson();
        ofAPart();
        ofBoth();
        moving();
        writingByHand();
        keepingOff();
        daysGoBy();
        undoing();
        DUE.end();
    }
}
