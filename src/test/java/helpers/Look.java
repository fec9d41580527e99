import java.util.ArrayList;
import java.util.List;
import java.util.function.Consumer;

/** All that can be seen of a show, for two of them to be compared. */
public final class Look {
    /** Everything is going on in it: days, DOGS, one kept off, what is TOLD, a SLOT, things to undo, bytes on the tape. */
    private static final String BUSY = "person ann 3 1 2; person bob 22 4 1; part coach 5 1 2; part gog 20 5 1;"
        + "writes = 1; marks = 2 + which; dogs = 60; least 2; seed 17;";

    private Look() { }

    public static UnderstudyShow busy() {
        UnderstudyShow x = Due.show(BUSY);
        x.days(3);
        x.move(0, 6);
        x.tell(0, 3, true);
        x.tell(1, 9, false);
        x.hold(1);
        x.write(1, 21);
        x.keepOff(1, true);
        x.feed(1, 2, 3, 4, 5);
        return x;
    }

    /** The answers of calls that change nothing; some 80 of two PEOPLE and two PARTS. */
    public static int[] at(UnderstudyShow x) {
        List<Integer> all = new ArrayList<>();
        add(all, x);
        return all.stream().mapToInt(Integer::intValue).toArray();
    }

    private static void add(List<Integer> all, UnderstudyShow x) {
        for (int what = 0; what < 14; what++) {
            all.add(x.count(what));
        }
        int people = x.count(0);
        int parts = x.count(1);
        for (int person = 0; person < people; person++) {
            for (int what = 0; what < 7; what++) {
                all.add(x.person(person, what));
            }
            for (int part = 0; part < parts; part++) {
                for (int what = 0; what < 4; what++) {
                    all.add(x.tells(person, part, what));
                }
            }
        }
        for (int part = 0; part < parts; part++) {
            for (int what = 0; what < 6; what++) {
                all.add(x.part(part, what));
            }
            all.add(x.then(part, 2, 0));
            all.add(x.given(part));
        }
        all.add(x.given(-1));
        all.add(x.whole());
        all.add(x.fairest());
        all.add(x.ways());
        all.add(x.year(3, 5));
        for (int k = 0; k <= x.count(10); k++) {
            all.add(x.who(k, 1));
        }
    }

    /** Behind what is seen at once: what undo() brings back, step by step, and what each SLOT holds. The show is used up. */
    public static int[] deep(UnderstudyShow x) {
        List<Integer> all = new ArrayList<>();
        add(all, x);
        for (boolean undone = x.undo(); undone; undone = x.undo()) {
            hours(all, x);
        }
        for (int slot = 0; slot < 3; slot++) {
            all.add(x.restore(slot) ? 1 : 0);
            hours(all, x);
        }
        return all.stream().mapToInt(Integer::intValue).toArray();
    }

    private static void hours(List<Integer> all, UnderstudyShow x) {
        for (int i = 0; i < Math.max(x.count(0), x.count(1)); i++) {
            all.add(x.person(i, 0));
            all.add(x.person(i, 3));
            all.add(x.person(i, 6));
            all.add(x.part(i, 0));
        }
        int[] whats = {2, 5, 6, 7, 9};
        for (int what : whats) {
            all.add(x.count(what));
        }
    }

    /** A busy show on which a call was made is as one on which it was not. */
    public static void nothingHappens(Due due, String name, Consumer<UnderstudyShow> call) {
        UnderstudyShow with = busy();
        call.accept(with);
        due.is("place() behind " + name, with.place(), -1);
        due.are("nothing happens by " + name, deep(with), deep(busy()));
    }
}
