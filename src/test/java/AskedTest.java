import java.util.List;
import java.util.function.Supplier;

/** What is asked changes nothing; all that is told of TEXTS goes by SIGNS, as FORMS are grouped now. */
public final class AskedTest {
    private static final Check check = new Check();

    private interface Call {
        long on(UnreadScript x);
    }

    public static void main(String[] args) {
        check.promise("Not promised: no changes of state beyond those described");
        asksAlone("a new object", UnreadScript::new);
        asksAlone("one that has some", Scripts::some);
        asksAlone("one that is full", Scripts::full);
        check.promise("Terms: All that is told of TEXTS goes by SIGNS, as FORMS are grouped now");
        regroupedByLikeness();
        regroupedByAForm();
        textsComeAndGo();
        check.finish();
    }

    private static void asksAlone(String which, Supplier<UnreadScript> made) {
        for (Looks.Look look : Looks.all()) {
            List<Long> before = Looks.at(made.get(), look);
            int n = 0;
            for (Call call : ASKED) {
                UnreadScript x = made.get();
                long first = call.on(x);
                check.due("call " + n + " twice, of " + which, call.on(x), first);
                Looks.same(check, "call " + n + " of " + which, Looks.at(x, look), before);
                n++;
            }
        }
    }

    private static final List<Call> ASKED = List.of(
            x -> x.sign(1), x -> x.signs(0), x -> x.signs(1), x -> x.signs(2), x -> x.signs(3),
            x -> x.textOf(1, 3), x -> x.textOf(0, 5), x -> x.textOf(0, 10), x -> x.counted(0), x -> x.beside(0, 1),
            x -> x.chance(0, 1, 0), x -> x.chance(1, 1, 1), x -> x.runs(0), x -> x.runs(1), x -> x.runs(2),
            x -> x.akin(2, 3), x -> x.grid(1, 0), x -> x.grid(2, 1), x -> x.grid(3, 31), x -> x.values(0),
            x -> x.values(4), x -> x.sure(1), x -> x.dragged(0, 0, 0), x -> x.dragged(1, 1, 2),
            x -> x.together(0, 0, 1, 1), x -> x.tabled(0), x -> x.tabled(5), x -> x.read(3, 27), x -> x.best(1, 0),
            x -> x.best(3, 2), x -> x.judge(1, 2, 0), x -> x.judge(2, 1, 1), x -> x.fault(), x -> x.claim(0, 5),
            x -> x.claim(2, 3), x -> x.known(4, 0), x -> x.known(9, 2), x -> x.count(2), x -> x.count(10));

    private static void layTexts(UnreadScript x) {
        Scripts.text(x, "abc abd.e fa fb");
        Scripts.text(x, "ab ba c abe eb");
        Scripts.text(x, "fe fd ccab");
        x.apart(0, 1, 4);
        x.apart(2, 3, 9);
        x.apart(5, 2, 3);
        x.name(2, Scripts.sounds("01"));
        x.name(3, Scripts.sounds("010"));
        x.word(2, Scripts.sounds("12"));
        x.word(3, Scripts.sounds("011"));
        x.word(1, 3);
    }

    private static void ask(UnreadScript x) {
        for (Call call : ASKED) call.on(x);
    }

    private static void same(String told, Supplier<UnreadScript> one, Supplier<UnreadScript> other) {
        for (Looks.Look look : Looks.all()) {
            Looks.same(check, told, Looks.at(one.get(), look), Looks.at(other.get(), look));
        }
    }

    private static UnreadScript withFeatures(int likeness) {
        UnreadScript x = new UnreadScript();
        x.likeness(likeness);
        for (int features : new int[] {0, 1, 0b110000, 0b1110000, 0b111111000000, 0b11}) x.form(features);
        return x;
    }

    private static void regroupedByLikeness() {
        for (int before = 0; before <= 12; before++) {
            int then = before;
            for (int now : new int[] {0, 1, 3, 12}) {
                same("LIKENESS " + before + ", then " + now, () -> {
                    UnreadScript x = withFeatures(then);
                    layTexts(x);
                    ask(x);
                    x.likeness(now);
                    return x;
                }, () -> {
                    UnreadScript x = withFeatures(now);
                    layTexts(x);
                    return x;
                });
            }
        }
    }

    private static void regroupedByAForm() {
        for (int features : new int[] {0, 0b1100000, 0b10000, 0b111, 0b1000011, 4095}) {
            same("FORM " + features + " behind the TEXTS", () -> {
                UnreadScript x = withFeatures(2);
                layTexts(x);
                ask(x);
                x.form(features);
                return x;
            }, () -> {
                UnreadScript x = withFeatures(2);
                x.form(features);
                layTexts(x);
                return x;
            });
        }
    }

    private static void textsComeAndGo() {
        check.promise("7: The latest TEXT goes");
        same("TEXTS that came and went", () -> {
            UnreadScript x = withFeatures(1);
            layTexts(x);
            Scripts.text(x, "ffff eab fab dab");
            Scripts.text(x, "a");
            ask(x);
            x.drop();
            x.drop();
            Scripts.text(x, "eb");
            x.drop();
            x.sheet(3, 0, 0);
            return x;
        }, () -> {
            UnreadScript x = withFeatures(1);
            layTexts(x);
            x.sheet(3, 0, 0);
            return x;
        });
    }
}
