import java.lang.reflect.InvocationTargetException;
import java.lang.reflect.Method;
import java.lang.reflect.Modifier;
import java.util.Arrays;
import java.util.HashMap;
import java.util.List;
import java.util.Map;
import java.util.Random;

/** All promises: runs of calls, drawn from fixed seeds, answered by the class and by the Model alike. */
public final class ModelTest {
    private static final int RUNS = 420;
    private static final int CALLS = 512;
    private static final List<String> KINDS = List.of("sign", "sound", "word", "name", "tongue");

    private static final Map<String, Method> SCRIPT = methodsOf(UnreadScript.class);
    private static final Map<String, Method> MODEL = methodsOf(Model.class);

    private final int run;
    private final int most;
    private final Random random;
    private final UnreadScript script = new UnreadScript();
    private final Model model = new Model();
    private final StringBuilder told = new StringBuilder();
    private int calls;
    private boolean wrong;

    private ModelTest(int run) {
        this.run = run;
        // ACCOUNTS and CLAIMS are full soon: rather more short runs of them.
        most = run % 7 == 3 ? 100 : run % 7 == 4 ? 250 : CALLS;
        random = new Random(run);
    }

    public static void main(String[] args) {
        long calls = 0;
        int wrong = 0;
        for (int run = 0; run < RUNS; run++) {
            ModelTest test = new ModelTest(run);
            test.go();
            calls += test.calls;
            if (test.wrong) wrong++;
        }
        System.out.println(calls + " calls in " + RUNS + " runs, " + wrong + " runs wrong");
        if (wrong != 0 || calls < 10000) System.exit(1);
    }

    private void go() {
        int theme = run % 7;
        if (theme == 6) fill();
        while (calls < most && !wrong) {
            switch (theme) {
                case 0: anything(); break;
                case 1: scripts(1, 3); break;
                case 2: scripts(0, 6); break;
                case 3: numbers(); break;
                case 4: claims(); break;
                default: scripts(2, 12); break;
            }
        }
        if (wrong) System.out.println("run " + run + told);
    }

    private void anything() {
        switch (random.nextInt(4)) {
            case 0: numbers(); break;
            case 1: claims(); break;
            default: scripts(1, 5); break;
        }
    }

    // A number from lo to hi, now and then one beside them.
    private int pick(int lo, int hi) {
        int drawn = random.nextInt(60);
        if (drawn == 0) return lo - 1;
        if (drawn == 1) return hi + 1;
        if (drawn == 2) return random.nextBoolean() ? Integer.MIN_VALUE : Integer.MAX_VALUE;
        return lo + random.nextInt(Math.max(1, hi - lo + 1));
    }

    private int formOrSign() {
        return pick(0, model.count(0) - 1);
    }

    private int anyText() {
        return pick(0, model.count(1) - 1);
    }

    private int someTexts() {
        return pick(0, (1 << model.count(1)) - 1);
    }

    // As much of FORMS and TEXTS as there can be, with as many WORDS or as many SIGNS as there can be.
    private void fill() {
        call("likeness", random.nextInt(3));
        for (int f = 0; f < 24; f++) call("form", random.nextInt(4096));
        for (int t = 0; t < 8; t++) {
            call("sheet", 0, 2, 24);
            boolean parted = random.nextBoolean();
            for (int i = 0; i < 24; i++) call("lay", 0, i, parted && i % 2 == 1 ? -2 : random.nextInt(24));
            call("text", 0, 2, 0, 24);
        }
    }

    private void scripts(int likeness, int forms) {
        if (calls == 0) {
            call("likeness", likeness);
            for (int f = 0; f < forms; f++) call("form", random.nextInt(4) == 0 ? pick(0, 4095) : random.nextInt(64));
        }
        switch (random.nextInt(14)) {
            case 0: call("likeness", random.nextInt(3) == 0 ? pick(0, 12) : likeness); break;
            case 1: if (random.nextInt(4) == 0) call("form", pick(0, 4095)); break;
            case 2: case 3: case 4: layText(); break;
            case 5: call("sign", formOrSign()); call("signs", pick(0, 3)); break;
            case 6: if (random.nextInt(3) == 0) call("drop"); else call("count", pick(0, 10)); break;
            case 7: askTexts(); break;
            case 8: askGrids(); break;
            case 9: call("name", pick(1, 4), random.nextInt(3) == 0 ? pick(0, 255) : pick(0, 15)); break;
            case 10: askNames(); break;
            case 11: call("word", pick(1, 3), random.nextInt(8) == 0 ? pick(0, 63) : pick(0, 15)); break;
            case 12: askTables(); break;
            default: sheets(); break;
        }
    }

    private void layText() {
        int k = random.nextInt(4);
        int lane = random.nextInt(3);
        int n = 4 + random.nextInt(24);
        call("sheet", k, lane, n);
        int few = random.nextInt(3) == 0 ? 2 : 24;
        for (int i = 0; i < n; i++) {
            int form = random.nextInt(Math.max(1, Math.min(few, model.count(0))));
            int drawn = random.nextInt(100);
            call("lay", k, i, drawn < 25 ? -2 : drawn < 31 ? -1 : drawn < 32 ? pick(-2, 24) : form);
        }
        call("text", k, lane, random.nextInt(20) == 0 ? pick(0, n) : 0, Math.min(24, n));
    }

    private void askTexts() {
        int t = anyText();
        for (int what = 0; what < 6; what++) call("textOf", t, what);
        call("textOf", t, pick(0, 35));
        call("counted", formOrSign());
        int a = formOrSign();
        int b = random.nextInt(4) == 0 ? a : formOrSign();
        call("beside", a, b);
        call("chance", a, b, 0);
        call("chance", a, b, 1);
        call("chance", a, b, pick(0, 1));
        call("runs", random.nextInt(3));
        call("runs", pick(0, 2));
    }

    private void askGrids() {
        for (int n = 0; n < 4; n++) call("akin", formOrSign(), formOrSign());
        for (int n = 0; n < 2; n++) call("apart", formOrSign(), formOrSign(), pick(0, 9));
        int rows = pick(1, 3);
        call("grid", rows, 0);
        call("grid", rows, 1);
        for (int n = 0; n < 3; n++) call("grid", rows, pick(10, 18));
        for (int n = 0; n < 5; n++) call("grid", rows, pick(30, 38));
        call("grid", rows, pick(0, 40));
    }

    private void askNames() {
        int name = pick(0, model.count(4) - 1);
        int other = pick(0, model.count(4) - 1);
        int t = anyText();
        for (int what = 0; what < 3; what++) call("dragged", name, t, what);
        call("dragged", name, t, pick(0, 2));
        call("together", name, t, other, anyText());
        call("together", other, t, name, t);
    }

    private void askTables() {
        call("tabled", pick(0, 5));
        call("tabled", random.nextInt(6));
        call("read", someTexts(), pick(0, 4095));
        call("read", someTexts(), random.nextInt(64));
        if (random.nextInt(4) != 0) return;
        int texts = someTexts();
        int others = (1 << model.count(1)) - 1 & ~texts;
        call("best", texts, random.nextInt(3));
        call("best", someTexts(), pick(0, 2));
        call("judge", texts, others, random.nextInt(3));
        call("judge", texts, random.nextInt(4) == 0 ? someTexts() : others, 1);
    }

    private void sheets() {
        call("sheet", pick(0, 3), pick(0, 2), pick(-1, 60));
        int k = pick(0, 3);
        for (int n = 0; n < 3; n++) call("lay", k, pick(0, 59), random.nextInt());
        call("text", k, pick(0, 2), pick(0, 59), pick(1, 24));
        call("count", 10);
    }

    private void numbers() {
        int items = marks();
        int total = marks();
        // Most of them add up by one row of VALUES at least.
        boolean isSound = random.nextInt(15) != 0;
        for (int n = 0; n < 2000 && isSound && worth(items) != worth(total); n++) total = marks();
        call("account", items, total);
        for (int n = 0; n < 3; n++) call("values", pick(0, 4));
        for (int n = 0; n < 2; n++) call("sure", pick(0, 3));
        call("count", 3);
        if (random.nextInt(6) == 0) call("account", pick(0, 1 << 20), random.nextInt());
    }

    // By a row of VALUES that is the run's own.
    private int worth(int packed) {
        int[] values = run % 2 == 0 ? new int[] {1, 5, 60, 12} : new int[] {10, 2, 4, 6};
        int sum = 0;
        for (int m = 0; m < 4; m++) sum += values[m] * (packed >> 5 * m & 31);
        return sum;
    }

    private int marks() {
        int packed = 0;
        for (int m = 0; m < 4; m++) {
            if (random.nextInt(3) == 0) packed |= random.nextInt(random.nextInt(10) == 0 ? 25 : 7) << 5 * m;
        }
        return packed;
    }

    private void claims() {
        if (random.nextInt(3) == 0) call("day", random.nextInt(5) == 0 ? pick(0, 99) : model.count(8) + random.nextInt(3));
        StringBuilder text = new StringBuilder();
        int many = random.nextInt(5) == 0 ? 6 : random.nextInt(3);
        for (int n = 0; n < many; n++) writeClaim(text, n);
        if (random.nextInt(4) == 0 && text.length() > 0) spoil(text);
        feed(text.toString());
        call("count", 9);
        call("claims");
        call("fault");
        call("count", 6);
        for (int n = 0; n < 8; n++) call("claim", pick(0, model.count(6) - 1), pick(0, 6));
        if (random.nextInt(3) == 0) call("withdraw", pick(0, model.count(6) - 1));
        for (int n = 0; n < 3; n++) call("known", random.nextInt(3) == 0 ? pick(0, 99) : model.count(8), pick(0, 2));
        call("count", 7);
        call("count", 8);
    }

    private void writeClaim(StringBuilder text, int n) {
        text.append(KINDS.get(random.nextInt(5))).append(random.nextBoolean() ? " " : "").append(random.nextInt(100));
        int there = model.count(6) + n;
        String link = random.nextBoolean() ? " on " : "on";
        for (int k = random.nextInt(4); k < there; k += 1 + random.nextInt(4)) {
            boolean gone = k < model.count(6) && model.claim(k, 3) != -4;
            if (random.nextInt(3) == 0 || gone && random.nextInt(40) != 0) continue;
            text.append(link).append(random.nextInt(40) == 0 ? random.nextInt(there + 2) : k);
            link = random.nextBoolean() ? "," : " , ";
        }
        text.append(random.nextBoolean() ? ";" : " ; ");
    }

    private void spoil(StringBuilder text) {
        String signs = " ;,0123456789abcosigntwr{A\u00ff\u0000";
        int at = random.nextInt(text.length());
        char sign = signs.charAt(random.nextInt(signs.length()));
        switch (random.nextInt(4)) {
            case 0: text.setCharAt(at, sign); break;
            case 1: text.insert(at, sign); break;
            case 2: text.deleteCharAt(at); break;
            default: text.setLength(at); break;
        }
    }

    private void feed(String text) {
        int had = model.count(9);
        for (int from = 0; from < text.length(); from += 8) {
            long v = 0;
            for (int i = from; i < from + 8; i++) v = v << 8 | (i < text.length() ? text.charAt(i) : ' ');
            call("feed", v);
        }
        call("end", random.nextInt(12) == 0 ? pick(0, 160) : had + text.length());
    }

    private void call(String name, long... with) {
        if (wrong || calls >= most) return;
        calls++;
        told.append("\n  ").append(name).append(Arrays.toString(with)).append(" ");
        String want = answer(model, MODEL.get(name), with);
        String got = answer(script, SCRIPT.get(name), with);
        told.append(got);
        if (got.equals(want)) return;
        wrong = true;
        told.append(", due is ").append(want);
    }

    private static String answer(Object on, Method method, long... with) {
        Object[] args = new Object[with.length];
        for (int i = 0; i < args.length; i++) {
            boolean isLong = method.getParameterTypes()[i] == long.class;
            args[i] = isLong ? (Object) with[i] : (Object) (int) with[i];
        }
        try {
            return String.valueOf(((Number) method.invoke(on, args)).longValue());
        } catch (InvocationTargetException thrown) {
            return "by throwing " + thrown.getCause();
        } catch (IllegalAccessException e) {
            throw new IllegalStateException(e);
        }
    }

    private static Map<String, Method> methodsOf(Class<?> type) {
        Map<String, Method> found = new HashMap<>();
        for (Method method : type.getDeclaredMethods()) {
            if (!Modifier.isPrivate(method.getModifiers())) found.put(method.getName(), method);
        }
        return found;
    }
}
