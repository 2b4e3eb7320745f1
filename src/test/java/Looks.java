import java.util.ArrayList;
import java.util.List;

/** Looks at all that can be asked of a script, each of less than 300 calls; each needs an object of its own. */
final class Looks {
    private static final int CAST = -13;

    interface Look {
        void at(UnreadScript x, List<Long> told);
    }

    private Looks() { }

    static List<Long> at(UnreadScript x, Look look) {
        List<Long> told = new ArrayList<>();
        look.at(x, told);
        return told;
    }

    static void same(Check check, String told, List<Long> after, List<Long> before) {
        check.due(told + ": as many answers", after.size(), before.size());
        for (int i = 0; i < Math.min(after.size(), before.size()); i++) {
            if (after.get(i).equals(before.get(i))) continue;
            check.due(told + ": answer " + i + " of a look then", after.get(i), before.get(i));
            return;
        }
    }

    static List<Look> all() {
        List<Look> all = besideTheFault();
        all.add((x, told) -> told.add((long) x.fault()));
        return all;
    }

    /** Without the one at the FAULT of the latest claims(). */
    static List<Look> besideTheFault() {
        List<Look> all = new ArrayList<>();
        all.add(Looks::forms);
        all.add((x, told) -> texts(x, told, 0));
        all.add((x, told) -> texts(x, told, 4));
        all.add(Looks::counts);
        all.add(Looks::apart);
        all.add(Looks::grids);
        all.add(Looks::numbers);
        all.add(Looks::names);
        all.add(Looks::words);
        all.add(Looks::claims);
        all.add(Looks::tape);
        all.add((x, told) -> sheet(x, told, 0));
        all.add((x, told) -> sheet(x, told, 1));
        all.add((x, told) -> sheet(x, told, 2));
        all.add((x, told) -> sheet(x, told, 3));
        return all;
    }

    private static void forms(UnreadScript x, List<Long> told) {
        for (int what = 0; what <= 10; what++) told.add((long) x.count(what));
        for (int what = 0; what < 4; what++) told.add((long) x.signs(what));
        for (int f = 0; f <= 24; f++) told.add((long) x.sign(f));
        // LIKENESS, THE DAY, features: told by what they were, and by how FORMS are grouped.
        for (int v = 0; v <= 3; v++) {
            told.add((long) x.likeness(v));
            for (int f = 0; f <= 24; f++) told.add((long) x.sign(f));
        }
        told.add((long) x.day(99));
        for (int n = 0; n < 25; n++) told.add((long) x.form(n));
    }

    private static void texts(UnreadScript x, List<Long> told, int from) {
        for (int t = from; t < from + 5; t++) {
            for (int what = 0; what < 6; what++) told.add((long) x.textOf(t, what));
            for (int what = 10; what <= 34; what++) told.add((long) x.textOf(t, what));
        }
    }

    private static void counts(UnreadScript x, List<Long> told) {
        for (int s = 0; s < 24; s++) {
            told.add((long) x.counted(s));
            told.add((long) x.beside(s, (s + 1) % 24));
            told.add(x.chance(s, (s + 1) % 24, 0));
            told.add(x.chance(s, s, 1));
        }
        for (int what = 0; what < 3; what++) told.add((long) x.runs(what));
        for (int i = 0; i < 6; i++) told.add((long) x.tabled(i));
        for (int n = 0; n < 9; n++) told.add((long) x.drop());
    }

    private static void apart(UnreadScript x, List<Long> told) {
        for (int f = 0; f < 24; f++) {
            for (int g = 0; g < f; g++) told.add((long) x.apart(f, g, 0));
        }
    }

    private static void grids(UnreadScript x, List<Long> told) {
        for (int a = 0; a < 12; a++) {
            for (int b = 0; b < a; b++) told.add((long) x.akin(a, b));
        }
        for (int rows = 1; rows <= 3; rows++) {
            for (int what : new int[] {0, 1}) told.add((long) x.grid(rows, what));
            for (int i = 0; i < 8; i++) {
                told.add((long) x.grid(rows, 10 + i));
                told.add((long) x.grid(rows, 30 + i));
            }
        }
    }

    private static void numbers(UnreadScript x, List<Long> told) {
        for (int what = 0; what < 5; what++) told.add((long) x.values(what));
        for (int mark = 0; mark < 4; mark++) told.add((long) x.sure(mark));
        for (int n = 0; n < 9; n++) told.add((long) x.account(0, 0));
        told.add((long) x.values(0));
    }

    private static void names(UnreadScript x, List<Long> told) {
        for (int a = 0; a < 4; a++) {
            for (int t = 0; t < 8; t++) {
                for (int what = 0; what < 3; what++) told.add((long) x.dragged(a, t, what));
            }
            for (int b = 0; b < 4; b++) told.add((long) x.together(a, 0, b, 1));
        }
        for (int n = 0; n < 5; n++) told.add((long) x.name(1, 0));
    }

    private static void words(UnreadScript x, List<Long> told) {
        int all = (1 << x.count(1)) - 1;
        for (int table : new int[] {0, 1, 9, 27, 4095}) told.add((long) x.read(all, table));
        for (int what = 0; what < 3; what++) {
            told.add((long) x.best(all, what));
            told.add((long) x.judge(all & 1, all & 6, what));
        }
        for (int w = 0; w < 4; w++) told.add((long) x.word(1, w));
        for (int w = 0; w < 16; w++) told.add((long) x.word(2, w));
        for (int w = 4083; w < 4096; w++) told.add((long) x.word(6, w));
    }

    private static void claims(UnreadScript x, List<Long> told) {
        for (int k = 0; k <= 20; k++) {
            for (int what = 0; what < 7; what++) told.add((long) x.claim(k, what));
        }
        for (int d : new int[] {0, 2, 3, 4, 5, 98, 99}) {
            for (int what = 0; what < 3; what++) told.add((long) x.known(d, what));
        }
    }

    private static void tape(UnreadScript x, List<Long> told) {
        told.add((long) x.count(9));
        told.add((long) x.claims());
        told.add((long) x.fault());
        told.add((long) x.count(9));
        told.add((long) Scripts.claims(x, "name 77; name 78 on 0; name 79 on 3;"));
        told.add((long) x.fault());
        claims(x, told);
    }

    private static void sheet(UnreadScript x, List<Long> told, int k) {
        told.add((long) x.drop());
        int lane = 0;
        for (int as = 0; as < 3; as++) {
            int t = x.text(k, as, 0, 1);
            told.add((long) t);
            if (t >= 0) x.drop();
            if (t != CAST) lane = as;
        }
        for (int i = 0; i <= 60; i++) {
            int t = x.text(k, lane, i, 1);
            told.add((long) t);
            if (t < 0) continue;
            told.add((long) x.textOf(t, 10));
            x.drop();
        }
    }
}
