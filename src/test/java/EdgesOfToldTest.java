import java.util.List;
import java.util.function.Consumer;

/** The edges that the document names of what is TOLD, of SLOTS and of counts (promises 36 to 42), sentence by sentence. */
public final class EdgesOfToldTest {
    private static final Due DUE = new Due("EdgesOfToldTest");
    private static final int MAX = Integer.MAX_VALUE;
    private static final int MIN = Integer.MIN_VALUE;
    /** STANDS for both PARTS: 0, 1, 50, 99. */
    private static final String FOUR = "person a 0 1 1; person b 1 1 1; person c 2 1 1; person d 3 1 1;"
        + "part p 0 1 1; part q 0 1 1;"
        + "stands = if hour < 2 then hour else if hour < 3 then 50 else 99;";

    private static void who(UnderstudyShow x, String when, int k, int bits) {
        DUE.is(when + ": who(" + k + ", 1)", x.who(k, 1), bits);
        DUE.is(when + ": who(" + k + ", 0)", x.who(k, 0), Integer.bitCount(bits));
    }

    private static void told() {
        DUE.says("TOLD: that one unknown STANDS for a PART by v (0 .. 99) or more now, or does not;");
        int[] vs = {0, 1, 2, 49, 50, 51, 98, 99};
        int[] bits = {15, 14, 12, 12, 12, 8, 8, 8};
        for (int i = 0; i < vs.length; i++) {
            UnderstudyShow x = Due.show(FOUR);
            x.tell(i % 2, vs[i], true);
            who(x, "by " + vs[i] + " or more", 1, bits[i]);
            x.forget();
            x.tell(i % 2, vs[i], false);
            who(x, "not by " + vs[i], 1, 15 - bits[i]);
        }
        UnderstudyShow x = Due.show(FOUR);
        x.tell(0, 50, true);
        x.move(0, 2);
        who(x, "now", 1, 13);
        x.undo();
        who(x, "now again", 1, 12);
        x.keepOff(3, true);
        who(x, "of one kept off, too", 1, 12);
    }

    private static void twenty() {
        DUE.says("20 at most, numbered from 0 on; KNOWN by k: the first k.");
        UnderstudyShow x = Due.show(FOUR);
        for (int i = 0; i < 20; i++) {
            DUE.is("its number", x.tell(i % 2, i < 18 ? 0 : 80 - i, i != 19), i);
        }
        DUE.is("the 21st", x.tell(0, 99, false), -1);
        DUE.is("TOLD ones", x.count(10), 20);
        who(x, "the first 0", 0, 15);
        who(x, "the first 18", 18, 15);
        who(x, "the first 19", 19, 8);
        who(x, "all 20", 20, 0);
        DUE.is("the first 21", x.who(21, 0), -1);
        DUE.is("how many there were", x.forget(), 20);
        DUE.is("numbered from 0 on again", x.tell(0, 1, true), 0);
        who(x, "the first one", 1, 14);
        DUE.is("the first 2", x.who(2, 0), -1);
    }

    private static void whoItWas() {
        DUE.says("WHO: PEOPLE of whom all that is KNOWN is so: how many; which (bits).");
        UnderstudyShow x = Due.show(FOUR);
        x.tell(0, 1, true);
        x.tell(1, 50, true);
        x.tell(1, 51, false);
        x.tell(0, 99, true);
        int[] bits = {15, 14, 12, 4, 0};
        for (int k = 0; k <= 4; k++) {
            who(x, "as KNOWN", k, bits[k]);
        }
        UnderstudyShow seven = Due.show("person a 1 1 1; person b 1 1 1; person c 1 1 1; person d 1 1 1;"
            + "person e 1 1 1; person f 1 1 1; person g 1 1 1;");
        who(seven, "all seven", 0, 127);
        who(Due.show("part p 1 1 1;"), "no PEOPLE", 0, 0);
        who(new UnderstudyShow(), "of a new object", 0, 0);
        DUE.says("WHO, as KNOWN by k: what 0 how many, 1 which (bits); NONE: no such ones.");
        int[] wrong = {-1, -2, 5, 6, 20, 21, MAX, MIN};
        for (int k : wrong) {
            DUE.is("who(" + k + ", 0)", x.who(k, 0), -1);
            DUE.is("who(" + k + ", 1)", x.who(k, 1), -1);
        }
        int[] wrongWhats = {-1, -2, 2, 3, MAX, MIN};
        for (int what : wrongWhats) {
            DUE.is("who(0, " + what + ")", x.who(0, what), -1);
            DUE.is("who(4, " + what + ")", x.who(4, what), -1);
        }
    }

    private static void asking() {
        DUE.says("ASK by v: the PART of which, once it is told whether they STAND for it by v or more, fewest are "
            + "left, at worst; of alike ones the first.");
        // STANDS for p: 0 9 9 9; for q: 0 0 5 9
        UnderstudyShow x = Due.show("person a 0 1 1; person b 1 1 1; person c 2 1 1; person d 3 1 1; part p 0 1 1;"
            + "part q 0 1 1; part r 0 1 1;"
            + "stands = if 1 < which then 99 else if which < 1 then 9 * ((hour + 2) / 3) else if hour < 2 then 0 else 4 * hour - 3;");
        DUE.is("by 5: 3 of p, 2 of q, 4 of r", x.ask(0, 5), 1);
        DUE.is("by 6: 3 of p, 3 of q, 4 of r", x.ask(0, 6), 0);
        DUE.is("by 0: all of each", x.ask(0, 0), 0);
        DUE.is("by 99: p 4 not, q 4 not, r 4", x.ask(0, 99), 0);
        x.tell(0, 9, true);
        DUE.is("of three: 3 of p, 2 of q", x.ask(1, 5), 1);
        DUE.is("of three: 3 of p, 2 of q the other way", x.ask(1, 6), 1);
        DUE.is("as KNOWN by none", x.ask(0, 6), 0);
        x.tell(1, 9, true);
        DUE.is("one is left", x.ask(2, 5), 0);
        DUE.says("ASK by v (0 .. 99), as KNOWN by k; -2: none is left, no PARTS; NONE: no such ones.");
        x.tell(2, 99, false);
        DUE.is("none is left", x.ask(3, 5), -2);
        DUE.is("no PARTS", Due.show("person a 1 1 1;").ask(0, 0), -2);
        DUE.is("no PEOPLE", Due.show("part p 1 1 1;").ask(0, 99), -2);
        DUE.is("of a new object", new UnderstudyShow().ask(0, 0), -2);
        int[] wrong = {-1, -2, 4, 20, 21, MAX, MIN};
        for (int k : wrong) {
            DUE.is("ask(" + k + ", 0)", x.ask(k, 0), -1);
        }
        int[] wrongVs = {-1, -2, 100, 101, MAX, MIN};
        for (int v : wrongVs) {
            DUE.is("ask(0, " + v + ")", x.ask(0, v), -1);
            DUE.is("none is left, ask(3, " + v + ")", x.ask(3, v), -1);
            DUE.is("of a new object, ask(0, " + v + ")", new UnderstudyShow().ask(0, v), -1);
        }
        DUE.is("of a new object, ask(1, 0)", new UnderstudyShow().ask(1, 0), -1);
    }

    private static void telling() {
        DUE.says("It is TOLD: its number; NONE, and nothing happens: 20 are there, no such ones.");
        int[] goods = {0, 99};
        for (int v : goods) {
            UnderstudyShow x = Look.busy();
            DUE.is("tell(0, " + v + ", true)", x.tell(0, v, true), 2);
            DUE.is("tell(1, " + v + ", false)", x.tell(1, v, false), 3);
            DUE.is("things that can be undone", x.count(9), 4);
        }
        int[][] refused = {{2, 1}, {6, 1}, {-1, 1}, {MAX, 1}, {MIN, 1}, {0, -1}, {0, 100}, {0, 101}, {0, MAX}, {0, MIN}};
        for (int[] pair : refused) {
            for (int so = 0; so < 2; so++) {
                boolean isSo = so == 1;
                String call = "tell(" + pair[0] + ", " + pair[1] + ", " + isSo + ")";
                DUE.is(call, Look.busy().tell(pair[0], pair[1], isSo), -1);
                Look.nothingHappens(DUE, call, x -> x.tell(pair[0], pair[1], isSo));
            }
        }
        DUE.is("no PARTS", Due.show("person a 1 1 1;").tell(0, 1, true), -1);
        UnderstudyShow with = full();
        DUE.is("20 are there", with.tell(0, 99, true), -1);
        DUE.are("nothing happens where 20 are there", Look.deep(with), Look.deep(full()));
    }

    private static UnderstudyShow full() {
        UnderstudyShow x = Look.busy();
        for (int i = 2; i < 20; i++) {
            x.tell(i % 2, i, i % 3 == 0);
        }
        return x;
    }

    private static void forgetting() {
        DUE.says("All that was TOLD is forgotten: how many there were.");
        DUE.is("of a new object", new UnderstudyShow().forget(), 0);
        for (int many = 0; many <= 21; many++) {
            UnderstudyShow x = Due.show(FOUR);
            for (int i = 0; i < many; i++) {
                x.tell(0, 99, true);
            }
            DUE.is("of " + many, x.forget(), Math.min(20, many));
            DUE.is("TOLD ones", x.count(10), 0);
            DUE.is("once more", x.forget(), 0);
            who(x, "nothing is KNOWN", 0, 15);
            DUE.is("who(1, 0)", x.who(1, 0), -1);
        }
        UnderstudyShow x = Look.busy();
        UnderstudyShow y = Look.busy();
        x.forget();
        x.tell(0, 3, true);
        x.tell(1, 9, false);
        DUE.are("nothing else is forgotten", Look.deep(x), Look.deep(y));
    }

    private static void asksChangeNothing() {
        DUE.says("What would be (nothing happens;");
        String[] names = {"who", "who of none", "ask", "ask of none", "count"};
        List<Consumer<UnderstudyShow>> calls = List.of(x -> x.who(2, 1), x -> x.who(3, 1), x -> x.ask(2, 5), x -> x.ask(3, 5), x -> x.count(12));
        for (int i = 0; i < names.length; i++) {
            Look.nothingHappens(DUE, names[i], calls.get(i));
        }
    }

    private static void holding() {
        DUE.says("All that goes on (not what is TOLD, nor the tape) is held in a SLOT (0 .. 2): true; false: no such "
            + "one.");
        int[] refused = {-1, -2, 3, 4, MAX, MIN};
        for (int slot : refused) {
            DUE.is("hold(" + slot + ")", Look.busy().hold(slot), false);
            Look.nothingHappens(DUE, "hold(" + slot + ")", x -> x.hold(slot));
        }
        for (int slot = 0; slot < 3; slot++) {
            UnderstudyShow x = Look.busy();
            int[] before = allThatGoesOn(x);
            DUE.is("hold(" + slot + ")", x.hold(slot), true);
            DUE.are("it goes on as it was", allThatGoesOn(x), before);
            DUE.is("things that can be undone stay", x.count(9), 4);
            DUE.is("what is TOLD stays", x.count(10), 2);
            DUE.is("the tape stays", x.count(8), 20);
            DUE.is("SLOTS that hold something", x.count(11), slot == 1 ? 1 : 2);
            x.forget();
            x.tell(1, 1, true);
            x.back(13);
            x.keepOff(1, false);
            x.move(1, 0);
            x.write(0, 0);
            x.days(60);
            DUE.is("restore", x.restore(slot), true);
            DUE.are("all that goes on", allThatGoesOn(x), before);
            DUE.is("not what is TOLD", x.count(10), 1);
            DUE.is("nor the tape", x.count(8), 7);
        }
        UnderstudyShow x = new UnderstudyShow();
        DUE.is("of a new object", x.hold(2), true);
        DUE.is("SLOTS that hold something", x.count(11), 1);
        x.days(5);
        x.hold(2);
        x.days(5);
        x.restore(2);
        DUE.is("held anew", x.count(2), 5);
    }

    private static int[] allThatGoesOn(UnderstudyShow x) {
        int[] whats = {0, 1, 2, 3, 4, 5, 6, 7, 12, 13};
        int[] all = new int[whats.length + 8 + 4];
        for (int i = 0; i < whats.length; i++) {
            all[i] = x.count(whats[i]);
        }
        for (int i = 0; i < 2; i++) {
            all[10 + 4 * i] = x.person(i, 0);
            all[11 + 4 * i] = x.person(i, 3);
            all[12 + 4 * i] = x.person(i, 4);
            all[13 + 4 * i] = x.part(i, 0);
            all[18 + 2 * i] = x.tells(i, 0, 3);
            all[19 + 2 * i] = x.tells(i, 1, 3);
        }
        return all;
    }

    private static void restoring() {
        DUE.says("It goes on from what a SLOT holds (that stays there; nothing can be undone then): true; false, and "
            + "nothing happens: no such one, nothing is held.");
        int[] refused = {-1, -2, 0, 2, 3, 4, MAX, MIN};
        for (int slot : refused) {
            DUE.is("restore(" + slot + ")", Look.busy().restore(slot), false);
            Look.nothingHappens(DUE, "restore(" + slot + ")", x -> x.restore(slot));
        }
        DUE.is("of a new object", new UnderstudyShow().restore(0), false);
        UnderstudyShow x = Look.busy();
        DUE.is("restore(1)", x.restore(1), true);
        DUE.is("one is kept off no more", x.count(6), 0);
        DUE.is("nothing can be undone then", x.count(9), 0);
        DUE.is("nothing can be undone then", x.undo(), false);
        int[] held = allThatGoesOn(x);
        x.days(7);
        x.move(0, 0);
        x.write(1, 0);
        DUE.is("things that can be undone", x.count(9), 3);
        DUE.is("that stays there", x.restore(1), true);
        DUE.are("that stays there", allThatGoesOn(x), held);
        DUE.is("SLOTS that hold something", x.count(11), 1);
        x.days(1);
        int[] next = allThatGoesOn(x);
        DUE.is("undone", x.undo(), true);
        DUE.are("as it was restored", allThatGoesOn(x), held);
        DUE.is("not beyond", x.undo(), false);
        x.days(1);
        DUE.are("it goes on the same", allThatGoesOn(x), next);
        UnderstudyShow slots = Due.show("person a 1 1 1;");
        for (int slot = 0; slot < 3; slot++) {
            slots.move(0, 10 + slot);
            slots.hold(slot);
        }
        for (int slot = 0; slot < 3; slot++) {
            slots.restore(slot);
            DUE.is("each by itself", slots.person(0, 0), 10 + slot);
        }
    }

    private static void counts() {
        DUE.says("0 PEOPLE, 1 PARTS, 2 the day, 3 how many PARTS are CAST now, 4 STANDS of all that are CAST now, "
            + "added, 5 MARKS of all so far, 6 who is kept off (bits), 7 how many DOGS ran out so far, 8 bytes on "
            + "the tape, 9 things that can be undone, 10 TOLD ones, 11 SLOTS that hold something, 12 who is CAST as "
            + "nothing now and not kept off (bits), 13 how many hours those who are CAST now and their PARTS are "
            + "apart, added. NONE for others.");
        UnderstudyShow x = new UnderstudyShow();
        for (int what = 0; what < 14; what++) {
            DUE.is("of a new object, count(" + what + ")", x.count(what), 0);
        }
        x = Due.show("person a 23 1 1; person b 12 1 1; person c 9 9 9; person d 0 1 1; part p 1 1 1; part q 0 1 1;"
            + "stands = 12 - apart - unlike; marks = 5; dogs = 100;");
        count(x, "as it begins", 4, 2, 0, 2, 22, 0, 0, 0, 0, 0, 0, 0, 6, 2);
        x.days(2);
        x.keepOff(3, true);
        x.feed(1, 2, 3, 4, 5);
        x.back(1);
        x.tell(0, 1, true);
        x.hold(0);
        x.hold(2);
        // p is at 3 and q at 2: a is p by 8, b is q by 2
        count(x, "then", 4, 2, 2, 2, 10, 20, 8, 4, 19, 2, 1, 2, 4, 14);
        x.move(0, 12);
        // a is p by 3, b is q by 2
        count(x, "all far away", 4, 2, 2, 2, 5, 20, 8, 4, 19, 3, 1, 2, 4, 19);
        x.undo();
        UnderstudyShow idle = Due.show("person a 5 9 9; person b 5 1 1; person c 5 9 9; part p 5 1 1;");
        DUE.is("the first and the last are nothing", idle.count(12), 5);
        idle.keepOff(1, true);
        DUE.is("all but one kept off are nothing", idle.count(12), 5);
        for (int person = 0; person < 3; person++) {
            x.keepOff(person, true);
        }
        count(x, "with all kept off", 4, 2, 2, 0, 0, 20, 15, 4, 19, 5, 1, 2, 0, 0);
        int[] wrong = {-1, -2, 14, 15, 100, MAX, MIN};
        for (int what : wrong) {
            DUE.is("count(" + what + ")", x.count(what), -1);
            DUE.is("count(" + what + ") of a new object", new UnderstudyShow().count(what), -1);
        }
    }

    private static void count(UnderstudyShow x, String when, int... want) {
        for (int what = 0; what < want.length; what++) {
            DUE.is(when + ", count(" + what + ")", x.count(what), want[what]);
        }
    }

    public static void main(String[] args) {
        told();
        twenty();
        whoItWas();
        asking();
        telling();
        forgetting();
        asksChangeNothing();
        holding();
        restoring();
        counts();
        DUE.end();
    }
}
