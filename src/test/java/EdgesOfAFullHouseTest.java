/** Seven PEOPLE and six PARTS, the most that there can be: what is told of each, the last one too. */
public final class EdgesOfAFullHouseTest {
    private static final Due DUE = new Due("EdgesOfAFullHouseTest");
    private static final int PEOPLE = 7;
    private static final int PARTS = 6;
    private static final int DAYS = 10;

    /** The PEOPLE are at the HOURS 0 to 6; on day d the PART w is the one whose HOUR and d and w are 6, or 13 .. */
    private static UnderstudyShow full() {
        StringBuilder text = new StringBuilder();
        for (int person = 0; person < PEOPLE; person++) {
            text.append("person ").append((char) ('a' + person)).append(' ').append(person).append(" 1 1;");
        }
        for (int part = 0; part < PARTS; part++) {
            text.append("part ").append((char) ('p' + part)).append(' ').append(10 + 2 * part).append(" 2 2;");
        }
        text.append("stands = 10 + (hour + day + which) - (hour + day + which) / 7 * 7; marks = 3 + which;");
        return Due.show(text.toString());
    }

    private static int whoOn(int day, int part) {
        return Math.floorMod(6 - day - part, PEOPLE);
    }

    private static int seen(int days, int person, int part) {
        int often = 0;
        for (int day = 0; day < days; day++) {
            often += whoOn(day, part) == person ? 1 : 0;
        }
        return often;
    }

    private static int marks(int days, int person) {
        int marks = 0;
        for (int part = 0; part < PARTS; part++) {
            marks += (3 + part) * seen(days, person, part);
        }
        return marks;
    }

    private static int seenAsAny(int days, int person) {
        int often = 0;
        for (int part = 0; part < PARTS; part++) {
            often += seen(days, person, part);
        }
        return often;
    }

    private static void all(UnderstudyShow x, String when, int days) {
        int marks = 0;
        for (int person = 0; person < PEOPLE; person++) {
            for (int part = 0; part < PARTS; part++) {
                DUE.is(when + ": " + person + " seen as " + part, x.tells(person, part, 3), seen(days, person, part));
            }
            DUE.is(when + ": MARKS of " + person, x.person(person, 3), marks(days, person));
            DUE.is(when + ": seen " + person, x.person(person, 6), seenAsAny(days, person));
            marks += marks(days, person);
        }
        for (int part = 0; part < PARTS; part++) {
            DUE.is(when + ": who is " + part, x.part(part, 3), whoOn(days, part));
        }
        DUE.is(when + ": MARKS of all", x.count(5), marks);
        DUE.is(when + ": PARTS that are CAST", x.count(3), PARTS);
        DUE.is(when + ": who is nothing", x.count(12), 1 << whoOn(days, PARTS));
        DUE.is(when + ": the day", x.count(2), days);
    }

    private static void daysAndUndone() {
        DUE.says("each who is CAST is seen once more as that PART, and is MARKED: what MARKS tells");
        UnderstudyShow x = full();
        all(x, "as it begins", 0);
        x.days(DAYS);
        all(x, "in ten days", DAYS);
        DUE.says("The last thing done (move, write, keepOff, days) is undone: true;");
        x.undo();
        all(x, "undone", 0);
        for (int day = 0; day < DAYS; day++) {
            x.days(1);
        }
        x.undo();
        x.undo();
        all(x, "two of ten undone", DAYS - 2);
    }

    private static void heldAndRestored() {
        DUE.says("All that goes on (not what is TOLD, nor the tape) is held in a SLOT (0 .. 2): true;");
        for (int slot = 0; slot < 3; slot++) {
            UnderstudyShow x = full();
            x.days(DAYS + slot);
            x.hold(slot);
            x.days(9);
            DUE.is("restore(" + slot + ")", x.restore(slot), true);
            all(x, "gone on from " + slot, DAYS + slot);
        }
    }

    private static void habitsAndRegulars() {
        for (int days = 1; days <= 15; days++) {
            UnderstudyShow x = full();
            x.days(days);
            DUE.says("HABIT of a PERSON: the PART as which they were seen most often, of alike ones the first; how often.");
            for (int person = 0; person < PEOPLE; person++) {
                int best = -2;
                for (int part = PARTS - 1; part >= 0; part--) {
                    boolean asOften = best == -2 || seen(days, person, part) >= seen(days, person, best);
                    best = seen(days, person, part) > 0 && asOften ? part : best;
                }
                DUE.is("habit(" + person + ", 0) in " + days, x.habit(person, 0), best);
                DUE.is("habit(" + person + ", 1) in " + days, x.habit(person, 1), best == -2 ? -2 : seen(days, person, best));
            }
            DUE.says("REGULAR of a PART: who was seen as it most often, likewise.");
            for (int part = 0; part < PARTS; part++) {
                int best = -2;
                for (int person = PEOPLE - 1; person >= 0; person--) {
                    boolean asOften = best == -2 || seen(days, person, part) >= seen(days, best, part);
                    best = seen(days, person, part) > 0 && asOften ? person : best;
                }
                DUE.is("regular(" + part + ", 0) in " + days, x.regular(part, 0), best);
                DUE.is("regular(" + part + ", 1) in " + days, x.regular(part, 1), seen(days, best, part));
            }
        }
    }

    private static void inDays() {
        DUE.says("IN n DAYS (0 .. 60; with DOGS): HOUR of a PART; who is CAST; MARKS of a PERSON.");
        for (int part = 0; part < PARTS; part++) {
            UnderstudyShow x = full();
            for (int n = 0; n <= 60; n++) {
                DUE.is("then(" + part + ", " + n + ", 1)", x.then(part, n, 1), whoOn(n, part));
            }
            DUE.is("who is it now, behind all that", x.part(part, 3), whoOn(0, part));
        }
        UnderstudyShow x = full();
        for (int person = 0; person < PEOPLE; person++) {
            for (int n = 0; n <= 60; n++) {
                DUE.is("marksIn(" + person + ", " + n + ")", x.marksIn(person, n), marks(n, person));
            }
        }
    }

    private static void awayAndMeet() {
        DUE.says("BACK: hours by which all PARTS are away from those told in the text, added.");
        UnderstudyShow x = full();
        DUE.is("as told", x.away(), 0);
        int away = 0;
        for (int part = 0; part < PARTS; part++) {
            x.write(part, 11 + 2 * part);
            away++;
            DUE.is("away()", x.away(), away);
        }
        DUE.says("of one day the first two.");
        x = full();
        DUE.is("none meet", x.meet(1), -2);
        x.write(5, 18);
        DUE.is("the last two", x.meet(1), 45);
        x.write(5, 10);
        DUE.is("the first and the last", x.meet(1), 5);
    }

    private static void movedAndKeptOff() {
        DUE.says("EMPTY: PARTS that are CAST by nobody.");
        UnderstudyShow x = full();
        for (int person = 0; person < PEOPLE; person++) {
            DUE.is("keepOff(" + person + ", true)", x.keepOff(person, true), true);
            DUE.is("EMPTY", Integer.bitCount(x.empty()), person);
        }
        DUE.is("all are kept off", x.count(6), 127);
        DUE.is("all are EMPTY", x.empty(), 63);
        DUE.says("KEY: PEOPLE, not kept off, by whose being kept off now more PARTS were EMPTY.");
        DUE.is("none", full().key(), 0);
        UnderstudyShow six = full();
        six.keepOff(3, true);
        DUE.is("all six", six.key(), 127 - 8);
        DUE.says("CROWD: the HOUR at which most PEOPLE and PARTS are, added, of alike ones the first; how many.");
        UnderstudyShow crowd = full();
        crowd.move(6, 20);
        DUE.is("the last of both", crowd.crowd(0), 20);
        DUE.is("the last of both", crowd.crowd(1), 2);
    }

    public static void main(String[] args) {
        daysAndUndone();
        heldAndRestored();
        habitsAndRegulars();
        inDays();
        awayAndMeet();
        movedAndKeptOff();
        DUE.end();
    }
}
