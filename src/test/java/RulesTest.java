import java.lang.reflect.Constructor;
import java.lang.reflect.Field;
import java.lang.reflect.Method;
import java.lang.reflect.Modifier;
import java.nio.file.Files;
import java.nio.file.Path;
import java.util.Set;
import java.util.TreeSet;
import java.util.regex.Matcher;
import java.util.regex.Pattern;

/** What can be seen of LANGUAGE.md's rules when the class is there: the face, and how much calls make. */
public final class RulesTest {
    private static final Due DUE = new Due("RulesTest");

    private static Set<String> faceOfDocument() throws Exception {
        String doc = Files.readString(Path.of("../shared/DOC.md"));
        String block = doc.substring(doc.indexOf("```java"), doc.indexOf("```", doc.indexOf("```java") + 3));
        Matcher lines = Pattern.compile("public (int|boolean) (\\w+)\\(([^)]*)\\);").matcher(block);
        Set<String> face = new TreeSet<>();
        while (lines.find()) {
            String types = lines.group(3).replaceAll("(int|boolean) \\w+", "$1").replace(" ", "");
            face.add(lines.group(1) + " " + lines.group(2) + "(" + types + ")");
        }
        return face;
    }

    private static Set<String> faceOfClass() {
        Set<String> face = new TreeSet<>();
        for (Method method : UnderstudyShow.class.getDeclaredMethods()) {
            if (!Modifier.isPrivate(method.getModifiers())) {
                StringBuilder types = new StringBuilder();
                for (Class<?> type : method.getParameterTypes()) {
                    types.append(types.length() == 0 ? "" : ",").append(type);
                }
                face.add(method.getReturnType() + " " + method.getName() + "(" + types + ")");
            }
        }
        return face;
    }

    private static void face() throws Exception {
        Set<String> want = faceOfDocument();
        DUE.is("the document's face", want.size(), 41);
        if (!faceOfClass().equals(want)) {
            DUE.is("the face " + faceOfClass() + " where the document has " + want, 1, 0);
        }
        privateNames(UnderstudyShow.class, want);
        for (Field field : UnderstudyShow.class.getDeclaredFields()) {
            boolean isNone = field.getName().equals("NONE");
            DUE.is(field + " is not private", Modifier.isPrivate(field.getModifiers()), !isNone);
        }
        Constructor<?>[] constructors = UnderstudyShow.class.getDeclaredConstructors();
        DUE.is("constructors", constructors.length, 1);
        DUE.is("the class is final", Modifier.isFinal(UnderstudyShow.class.getModifiers()), true);
        for (Class<?> inside : UnderstudyShow.class.getDeclaredClasses()) {
            privateNames(inside, want);
        }
    }

    private static void privateNames(Class<?> where, Set<String> face) {
        for (Method method : where.getDeclaredMethods()) {
            boolean isPrivate = Modifier.isPrivate(method.getModifiers());
            DUE.is(method + " has a name of the face", isPrivate && names(face).contains(method.getName()), false);
        }
    }

    private static Set<String> names(Set<String> face) {
        Set<String> names = new TreeSet<>();
        for (String line : face) {
            names.add(line.substring(line.indexOf(' ') + 1, line.indexOf('(')));
        }
        return names;
    }

    private static void callAll(UnderstudyShow x) {
        Due.put(x, "person a 5 1 1; person b 7 2 2; person c 9 3 3; part p 5 1 1; part q 8 2 2; writes = 1; dogs = 40;");
        x.read();
        x.place();
        x.count(4);
        x.person(0, 5);
        x.part(0, 5);
        x.tells(0, 0, 0);
        x.move(0, 6);
        x.write(0, 7);
        x.keepOff(1, true);
        x.days(30);
        x.undo();
        x.hold(1);
        x.restore(1);
        x.empty();
        x.given(-1);
        x.given(1);
        x.whole();
        x.costs(0, 1);
        x.rather(0);
        x.ways();
        x.fairest();
        x.bestHour(0, 0);
        x.trade(0, 1);
        x.key();
        x.crowd(0);
        x.habit(0, 0);
        x.regular(0, 0);
        x.settles();
        x.missed(0);
        x.drift(0, 60);
        x.meet(0);
        x.away();
        x.then(0, 60, 1);
        x.marksIn(0, 60);
        x.star(60, 0);
        x.year(60, 20);
        x.tell(0, 5, true);
        x.who(1, 0);
        x.ask(1, 5);
        x.forget();
    }

    /** All calls of one run live in one room of 7.3 million fields and elements; told here in bytes, four of each. */
    private static final long ROOM = 4 * 7300000L;

    private static long bytesMade(Runnable calls) {
        com.sun.management.ThreadMXBean threads =
            (com.sun.management.ThreadMXBean) java.lang.management.ManagementFactory.getThreadMXBean();
        long id = Thread.currentThread().getId();
        long before = threads.getThreadAllocatedBytes(id);
        calls.run();
        return threads.getThreadAllocatedBytes(id) - before;
    }

    private static void callsMakeLittle() {
        UnderstudyShow x = new UnderstudyShow();
        // each round is some 50 calls, of 512 that an object is used for
        long made = bytesMade(() -> {
            for (int round = 0; round < 10; round++) {
                callAll(x);
            }
        });
        DUE.is("bytes made by 500 calls: " + made, made < ROOM / 10, true);
        String most = "person a 1 1 1; person b 2 2 2; person c 3 3 3; person d 4 4 4; person e 5 5 5; person f 6 6 6; person g 7 7 7;"
            + "part p 7 1 1; part q 6 2 2; part r 5 3 3; part s 4 4 4; part t 3 5 5; part u 2 6 6; stands = 50; writes = 1; dogs = 50;";
        UnderstudyShow y = Due.show(most);
        made = bytesMade(() -> {
            for (int call = 0; call < 50; call++) {
                y.year(60, 20);
                y.days(60);
                y.given(-1);
                y.bestHour(0, 0);
            }
        });
        DUE.is("bytes made by the dearest calls: " + made, made < ROOM / 10, true);
        made = bytesMade(() -> new UnderstudyShow());
        DUE.is("bytes made by the constructor: " + made, made < ROOM / 100, true);
    }

    public static void main(String[] args) throws Exception {
        face();
        callsMakeLittle();
        DUE.end();
    }
}
