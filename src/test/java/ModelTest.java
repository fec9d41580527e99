import java.lang.reflect.Method;
import java.util.ArrayList;
import java.util.Comparator;
import java.util.List;
import java.util.Random;

/** Runs of calls made by chance (always the same ones), each call's answer compared with SlowShow's. */
public final class ModelTest {
    private static final int RUNS = 1500;
    private static final int READ_RUNS = 6000;
    private static int wrong = 0;

    private final Random chance;
    private final UnderstudyShow show = new UnderstudyShow();
    private final SlowShow slow = new SlowShow();
    private final List<String> calls = new ArrayList<>();

    private ModelTest(long seed) {
        chance = new Random(seed);
    }

    private static List<Method> face() {
        List<Method> face = new ArrayList<>();
        for (Method method : UnderstudyShow.class.getDeclaredMethods()) {
            if (java.lang.reflect.Modifier.isPublic(method.getModifiers())) {
                face.add(method);
            }
        }
        face.sort(Comparator.comparing(Method::getName));
        return face;
    }

    private boolean call(Method method, Object... args) throws Exception {
        Object got = method.invoke(show, args);
        Object want = SlowShow.class.getMethod(method.getName(), method.getParameterTypes()).invoke(slow, args);
        calls.add(method.getName() + java.util.Arrays.toString(args) + " -> " + got);
        if (!got.equals(want)) {
            wrong++;
            System.out.println(String.join("\n", calls) + "\n  due is " + want);
            return false;
        }
        return true;
    }

    private boolean put(String text) throws Exception {
        Method feed = UnderstudyShow.class.getMethod("feed", int.class, int.class, int.class, int.class, int.class);
        Method back = UnderstudyShow.class.getMethod("back", int.class);
        calls.add("text: " + text);
        if (text.length() > 2000) {
            return true;
        }
        int rest = (20 - text.length() % 20) % 20;
        String padded = text + " ".repeat(rest);
        boolean good = true;
        for (int at = 0; at < padded.length() && good; at += 20) {
            Object[] fives = new Object[5];
            for (int i = 0; i < 5; i++) {
                int four = 0;
                for (int j = 0; j < 4; j++) {
                    four = four << 8 | padded.charAt(at + 4 * i + j) & 255;
                }
                fives[i] = four;
            }
            good = call(feed, fives);
        }
        return good && call(back, rest);
    }

    private boolean readAndPlace() throws Exception {
        return call(UnderstudyShow.class.getMethod("read")) && call(UnderstudyShow.class.getMethod("place"));
    }

    private int number() {
        switch (chance.nextInt(20)) {
            case 0:
                return -1;
            case 1:
                return chance.nextInt(130) - 20;
            case 2:
                return chance.nextBoolean() ? Integer.MAX_VALUE : Integer.MIN_VALUE;
            case 3:
            case 4:
                return chance.nextInt(24);
            case 5:
                return chance.nextInt(14);
            default:
                return chance.nextInt(chance.nextBoolean() ? 3 : 7);
        }
    }

    private Object[] arguments(Method method) {
        Class<?>[] types = method.getParameterTypes();
        Object[] args = new Object[types.length];
        for (int i = 0; i < args.length; i++) {
            args[i] = types[i] == boolean.class ? (Object) chance.nextBoolean() : (Object) number();
        }
        if (method.getName().equals("days") && chance.nextInt(3) > 0) {
            args[0] = 1 + chance.nextInt(3);
        }
        return args;
    }

    private void run(Texts texts) throws Exception {
        List<Method> face = face();
        boolean good = put(texts.whole()) && readAndPlace();
        for (int i = 0; i < 120 && good; i++) {
            Method method = face.get(chance.nextInt(face.size()));
            if (method.getName().equals("read") && chance.nextInt(4) > 0) {
                method = UnderstudyShow.class.getMethod("days", int.class);
            }
            if (method.getName().equals("read")) {
                good = put(chance.nextInt(3) == 0 ? texts.spoiled() : texts.whole());
            }
            good = good && call(method, arguments(method));
        }
    }

    private void runOfReads(Texts texts) throws Exception {
        boolean good = true;
        for (int i = 0; i < 3 && good; i++) {
            int kind = chance.nextInt(10);
            String text = kind == 0 ? texts.long400() : kind < 6 ? texts.flawed() : texts.spoiled();
            good = put(text) && readAndPlace();
        }
        Method count = UnderstudyShow.class.getMethod("count", int.class);
        for (int what = 0; what < 14 && good; what++) {
            good = call(count, what);
        }
    }

    public static void main(String[] args) throws Exception {
        long first = args.length > 0 ? Long.parseLong(args[0]) : 1;
        int times = args.length > 1 ? Integer.parseInt(args[1]) : 1;
        for (long seed = first; seed < first + (long) RUNS * times && wrong < 3; seed++) {
            ModelTest test = new ModelTest(seed);
            test.run(new Texts(test.chance));
        }
        for (long seed = first; seed < first + (long) READ_RUNS * times && wrong < 3; seed++) {
            ModelTest test = new ModelTest(seed);
            test.runOfReads(new Texts(test.chance));
        }
        System.out.println(wrong == 0 ? "ModelTest: all answers are as due" : "ModelTest: " + wrong + " runs differ");
        System.exit(wrong == 0 ? 0 : 1);
    }
}
