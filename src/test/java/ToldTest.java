/** Promises 36 to 42: who it was that came by; SLOTS; counts. */
public final class ToldTest {
    private static final Due DUE = new Due("ToldTest");
    /** STANDS: ann 9 5 0, bob 8 8 0, cid 0 2 0. */
    private static final String THREE = "person ann 8 2 3; person bob 9 2 5; person cid 12 7 3;"
        + "part coach 8 2 4; part guard 10 3 5; part gog 20 9 9; writes = 1; marks = 1 + which; least 4;";

    private static void promises36And37() {
        UnderstudyShow x = Due.show(THREE);
        DUE.is("37: none", x.forget(), 0);
        int[][] wrong = {{3, 1}, {-1, 1}, {0, -1}, {0, 100}, {Integer.MAX_VALUE, 1}};
        for (int[] pair : wrong) {
            DUE.is("36: wrong ones", x.tell(pair[0], pair[1], true), -1);
        }
        DUE.is("36: nothing happens", x.count(10), 0);
        for (int i = 0; i < 20; i++) {
            DUE.is("36: number", x.tell(i % 3, i == 0 ? 0 : 99 - i, i % 2 == 0), i);
        }
        DUE.is("36: 20 are there", x.tell(0, 1, true), -1);
        DUE.is("36: 20 are there", x.count(10), 20);
        DUE.is("36: is no thing to undo", x.undo(), false);
        DUE.is("37: all", x.forget(), 20);
        DUE.is("37: none", x.count(10), 0);
        DUE.is("36: anew", x.tell(2, 99, false), 0);
        DUE.is("36: 1", x.tell(2, 0, true), 1);
        DUE.is("37: two", x.forget(), 2);
        DUE.is("38: k behind it", x.who(1, 0), -1);
    }

    private static void who(UnderstudyShow x, int k, int bits) {
        DUE.is("38: which of " + k, x.who(k, 1), bits);
        DUE.is("38: how many of " + k, x.who(k, 0), Integer.bitCount(bits));
    }

    private static void promise38() {
        UnderstudyShow x = Due.show(THREE);
        who(x, 0, 7);
        x.tell(0, 8, true);
        x.tell(1, 5, true);
        x.tell(1, 6, false);
        x.tell(2, 1, true);
        who(x, 0, 7);
        who(x, 1, 3);
        who(x, 2, 3);
        who(x, 3, 1);
        who(x, 4, 0);
        x.keepOff(0, true);
        who(x, 3, 1);
        x.move(0, 9);
        // now ann STANDS by 8 and 6, bob by 8 and 8
        who(x, 1, 3);
        who(x, 3, 0);
        int[][] wrong = {{5, 0}, {-1, 0}, {0, 2}, {0, -1}};
        for (int[] pair : wrong) {
            DUE.is("38: wrong ones", x.who(pair[0], pair[1]), -1);
        }
        DUE.is("38: no PEOPLE", Due.show("part p 1 1 1;").who(0, 0), 0);
    }

    private static void promise39() {
        UnderstudyShow x = Due.show(THREE);
        // by 8: coach 2 yes, 1 no; guard 1 yes, 2 no; gog 0 yes, 3 no
        DUE.is("39: the first of alike ones", x.ask(0, 8), 0);
        DUE.is("39: by 0 all are alike", x.ask(0, 0), 0);
        DUE.is("39: by 99 all are alike", x.ask(0, 99), 0);
        x.tell(0, 8, true);
        DUE.is("39: guard by 8", x.ask(1, 8), 1);
        DUE.is("39: coach by 9", x.ask(1, 9), 0);
        DUE.is("39: as KNOWN by 0", x.ask(0, 3), 0);
        x.tell(0, 8, false);
        DUE.is("39: none is left", x.ask(2, 8), -2);
        DUE.is("39: as KNOWN by 1", x.ask(1, 8), 1);
        int[][] wrong = {{3, 0}, {-1, 0}, {0, -1}, {0, 100}};
        for (int[] pair : wrong) {
            DUE.is("39: wrong ones", x.ask(pair[0], pair[1]), -1);
        }
        DUE.is("39: no PARTS", Due.show("person a 1 1 1;").ask(0, 1), -2);
        DUE.is("39: no PEOPLE", Due.show("part a 1 1 1;").ask(0, 1), -2);
        x = Due.show("person a 1 1 1; person b 2 1 1; person c 3 1 1; person d 4 1 1; part p 1 1 1; part q 3 1 1;"
            + "part r 5 1 1; stands = if which < 1 then 1 else 9 - apart;");
        // by 7: p none; q b, c, d and a (2 apart); r c, d
        DUE.is("39: fewest at worst", x.ask(0, 7), 2);
        DUE.is("39: fewest at worst", x.ask(0, 8), 1);
    }

    private static void promises40And41() {
        UnderstudyShow x = Due.show(THREE + "dogs = 100;");
        DUE.is("41: nothing is held", x.restore(0), false);
        DUE.is("40: no such one", x.hold(3), false);
        DUE.is("40: no such one", x.hold(-1), false);
        x.days(2);
        x.move(2, 1);
        x.write(2, 4);
        x.keepOff(1, true);
        x.tell(0, 8, true);
        DUE.is("40: hold(0)", x.hold(0), true);
        DUE.is("40: no thing to undo", x.count(9), 4);
        int[] then = counts(x);
        x.undo();
        x.days(7);
        x.move(0, 0);
        x.write(1, 1);
        x.keepOff(0, true);
        x.tell(1, 9, true);
        x.feed(1, 2, 3, 4, 5);
        DUE.is("41: no such one", x.restore(3), false);
        DUE.is("41: no such one", x.restore(-1), false);
        DUE.is("41: nothing is held", x.restore(1), false);
        DUE.is("41: nothing happens", x.count(2), 9);
        DUE.is("41: nothing happens", x.count(9), 7);
        DUE.is("41: restore(0)", x.restore(0), true);
        int[] again = counts(x);
        for (int i = 0; i < then.length; i++) {
            DUE.is("41: it goes on, " + i, again[i], then[i]);
        }
        DUE.is("41: nothing can be undone", x.count(9), 0);
        DUE.is("41: nothing can be undone", x.undo(), false);
        DUE.is("41: what is TOLD stays", x.count(10), 2);
        DUE.is("41: the tape stays", x.count(8), 20);
        x.days(1);
        DUE.is("41: that stays there", x.restore(0), true);
        DUE.is("41: the day", x.count(2), 2);
        manySlots(x);
    }

    private static int[] counts(UnderstudyShow x) {
        int[] all = new int[40];
        int[] whats = {2, 3, 4, 5, 6, 7, 12, 13};
        for (int i = 0; i < 8; i++) {
            all[i] = x.count(whats[i]);
        }
        for (int i = 0; i < 3; i++) {
            all[8 + i] = x.person(i, 0);
            all[11 + i] = x.person(i, 3);
            all[14 + i] = x.person(i, 6);
            all[17 + i] = x.part(i, 0);
            for (int j = 0; j < 3; j++) {
                all[20 + 3 * i + j] = x.tells(i, j, 3);
            }
        }
        return all;
    }

    private static void manySlots(UnderstudyShow x) {
        DUE.is("42: slots", x.count(11), 1);
        x.days(3);
        x.hold(1);
        x.days(3);
        x.hold(2);
        DUE.is("42: slots", x.count(11), 3);
        x.restore(1);
        DUE.is("41: the day of slot 1", x.count(2), 5);
        x.restore(2);
        DUE.is("41: the day of slot 2", x.count(2), 8);
        x.restore(0);
        DUE.is("41: the day of slot 0", x.count(2), 2);
        x.hold(2);
        x.days(1);
        x.restore(2);
        DUE.is("40: held anew", x.count(2), 2);
        DUE.is("42: slots", x.count(11), 3);
        x.back(20);
        x.read();
        DUE.is("41: a text empties the slots", x.restore(1), false);
        DUE.is("40: held without a text", x.hold(1), true);
        DUE.is("41: gone on from", x.restore(1), true);
    }

    private static void counts(String when, UnderstudyShow x, int... want) {
        for (int what = 0; what < want.length; what++) {
            DUE.is("42: " + when + ": count(" + what + ")", x.count(what), want[what]);
        }
    }

    private static void promise42() {
        UnderstudyShow x = Due.show(THREE + "dogs = 100;");
        counts("new", x, 3, 3, 0, 2, 17, 0, 0, 0, 0, 0, 0, 0, 4, 1, -1);
        x.days(1);
        // coach goes to 9 by a DOG; guard to 9 by bob and back to 10 by a DOG. ann 8 5, bob 9 8, cid 1 2
        counts("a day later", x, 3, 3, 1, 2, 14, 3, 0, 2, 0, 1, 0, 0, 4, 2, -1);
        x.keepOff(2, true);
        x.keepOff(1, true);
        x.feed(1, 2, 3, 4, 5);
        x.tell(1, 1, true);
        x.hold(2);
        // ann alone: coach, 1 apart
        counts("with ann alone", x, 3, 3, 1, 1, 8, 3, 6, 2, 20, 3, 1, 1, 0, 1, -1);
        x.keepOff(2, false);
        x.undo();
        counts("undone", x, 3, 3, 1, 1, 8, 3, 6, 2, 20, 3, 1, 1, 0, 1, -1);
        DUE.is("42: wrong", x.count(-1), -1);
        DUE.is("42: wrong", x.count(Integer.MAX_VALUE), -1);
        DUE.is("42: NONE", UnderstudyShow.NONE, -1);
    }

    public static void main(String[] args) {
        promises36And37();
        promise38();
        promise39();
        promises40And41();
        promise42();
        DUE.end();
    }
}
