import java.util.ArrayList;
import java.util.List;
import java.util.function.Supplier;

/** What is refused changes nothing (but THE TAPE, as told): each refused call, then a look at all that can be asked. */
public final class RefusedTest {
    private static final int BAD = -1, STATE = -2, FULL = -3, NONE = -4, NULL = -11, INDEX = -12, CAST = -13, SIZE = -14;
    private static final int MIN = Integer.MIN_VALUE, MAX = Integer.MAX_VALUE;
    private static final Check check = new Check();

    private interface Call {
        long on(UnreadScript x);
    }

    private record Refused(String told, long due, Call call) { }

    private final List<Refused> calls = new ArrayList<>();

    public static void main(String[] args) {
        check.promise("Terms: what is refused changes nothing");
        ofNew().changeNothing("a new object", UnreadScript::new);
        ofSome().changeNothing("one that has some", Scripts::some);
        ofFull().changeNothing("one that is full", Scripts::full);
        check.promise("29: a text with a FAULT: THE TAPE is empty, nothing else changes");
        textsWithFaults();
        check.finish();
    }

    private void add(String told, long due, Call call) {
        calls.add(new Refused(told, due, call));
    }

    private void changeNothing(String which, Supplier<UnreadScript> made) {
        for (Looks.Look look : Looks.all()) {
            List<Long> before = Looks.at(made.get(), look);
            for (Refused refused : calls) {
                UnreadScript x = made.get();
                String told = refused.told + " of " + which;
                check.due(told, refused.call.on(x), refused.due);
                Looks.same(check, told, Looks.at(x, look), before);
            }
        }
    }

    // ---- refused calls

    private static RefusedTest ofAny() {
        RefusedTest all = new RefusedTest();
        all.ofScripts();
        all.ofNumbersAndSounds();
        all.ofClaimsAndSheets();
        return all;
    }

    private void ofScripts() {
        for (int v : new int[] {-1, 4096, MIN, MAX}) add("form(" + v + ")", BAD, x -> x.form(v));
        for (int v : new int[] {-1, 13, MIN, MAX}) add("likeness(" + v + ")", BAD, x -> x.likeness(v));
        for (int v : new int[] {-1, 24, MIN, MAX}) {
            add("sign(" + v + ")", BAD, x -> x.sign(v));
            add("signs(" + v + ")", BAD, x -> x.signs(v));
            add("text(" + v + ", 0, 0, 1)", BAD, x -> x.text(v, 0, 0, 1));
            add("text(0, " + v + ", 0, 1)", BAD, x -> x.text(0, v, 0, 1));
            add("textOf(" + v + ", 0)", -10, x -> x.textOf(v, 0));
            add("counted(" + v + ")", BAD, x -> x.counted(v));
            add("beside(" + v + ", 0)", BAD, x -> x.beside(v, 0));
            add("chance(0, " + v + ", 0)", BAD, x -> x.chance(0, v, 0));
            add("chance(0, 0, " + v + ")", BAD, x -> x.chance(0, 0, v));
            add("runs(" + v + ")", -10, x -> x.runs(v));
            add("akin(0, " + v + ")", BAD, x -> x.akin(0, v));
            add("apart(" + v + ", 0, 1)", BAD, x -> x.apart(v, 0, 1));
            add("apart(0, " + v + ", 1)", BAD, x -> x.apart(0, v, 1));
            add("apart(0, 1, " + v + ")", BAD, x -> x.apart(0, 1, v));
            add("grid(" + v + ", 0)", BAD, x -> x.grid(v, 0));
        }
        for (int n : new int[] {0, 25, -1, MIN, MAX}) add("text(0, 0, 0, " + n + ")", BAD, x -> x.text(0, 0, 0, n));
        for (int f : new int[] {0, 1, 23}) add("apart(" + f + ", itself, 1)", BAD, x -> x.apart(f, f, 1));
        add("akin(0, 0)", BAD, x -> x.akin(0, 0));
        add("grid(2, 99)", BAD, x -> x.grid(2, 99));
    }

    private void ofNumbersAndSounds() {
        for (int v : new int[] {-1, 21, 21 << 15, 1 << 20, MIN, MAX}) {
            add("account(" + v + ", 0)", BAD, x -> x.account(v, 0));
            add("account(0, " + v + ")", BAD, x -> x.account(0, v));
        }
        for (int v : new int[] {-1, 12, MIN, MAX}) {
            add("values(" + v + ")", BAD, x -> x.values(v));
            add("sure(" + v + ")", BAD, x -> x.sure(v));
            add("name(" + v + ", 0)", BAD, x -> x.name(v, 0));
            add("dragged(" + v + ", 0, 0)", BAD, x -> x.dragged(v, 0, 0));
            add("dragged(0, " + v + ", 0)", BAD, x -> x.dragged(0, v, 0));
            add("together(0, 0, " + v + ", 0)", BAD, x -> x.together(0, 0, v, 0));
            add("word(" + v + ", 0)", BAD, x -> x.word(v, 0));
            add("tabled(" + v + ")", BAD, x -> x.tabled(v));
            add("best(0, " + v + ")", BAD, x -> x.best(0, v));
            add("judge(0, 0, " + v + ")", BAD, x -> x.judge(0, 0, v));
        }
        for (int v : new int[] {-1, 4, 64, MIN, MAX}) {
            add("name(1, " + v + ")", BAD, x -> x.name(1, v));
            add("word(1, " + v + ")", BAD, x -> x.word(1, v));
        }
        for (int v : new int[] {-1, 256, MIN, MAX}) {
            add("read(" + v + ", 0)", BAD, x -> x.read(v, 0));
            add("best(" + v + ", 0)", BAD, x -> x.best(v, 0));
            add("judge(" + v + ", 0, 1)", BAD, x -> x.judge(v, 0, 1));
            add("judge(0, " + v + ", 1)", BAD, x -> x.judge(0, v, 1));
        }
        for (int v : new int[] {-1, 4096, MIN, MAX}) add("read(0, " + v + ")", BAD, x -> x.read(0, v));
    }

    private void ofClaimsAndSheets() {
        for (int v : new int[] {-1, 161, MIN, MAX}) add("end(" + v + ")", BAD, x -> x.end(v));
        for (int v : new int[] {-1, 20, MIN, MAX}) {
            add("claim(" + v + ", 0)", BAD, x -> x.claim(v, 0));
            add("claim(0, " + v + ")", BAD, x -> x.claim(0, v));
            add("withdraw(" + v + ")", BAD, x -> x.withdraw(v));
            add("known(0, " + v + ")", BAD, x -> x.known(0, v));
            add("sheet(" + v + ", 0, 1)", BAD, x -> x.sheet(v, 0, 1));
            add("sheet(0, " + v + ", 1)", BAD, x -> x.sheet(0, v, 1));
            add("lay(" + v + ", 0, 7)", BAD, x -> x.lay(v, 0, 7));
            add("count(" + v + ")", BAD, x -> x.count(v));
        }
        for (int v : new int[] {-1, 100, MIN, MAX}) {
            add("day(" + v + ")", BAD, x -> x.day(v));
            add("known(" + v + ", 0)", BAD, x -> x.known(v, 0));
        }
        for (int k = 0; k < 4; k++) {
            int sheet = k;
            for (int n : new int[] {61, MAX}) add("sheet(" + k + ", 0, " + n + ")", BAD, x -> x.sheet(sheet, 0, n));
            for (int n : new int[] {-1, MIN}) add("sheet(" + k + ", 2, " + n + ")", SIZE, x -> x.sheet(sheet, 2, n));
        }
    }

    private static RefusedTest ofNew() {
        RefusedTest all = ofAny();
        all.add("drop()", NONE, x -> x.drop());
        all.add("signs(2)", NONE, x -> x.signs(2));
        all.add("apart(0, 1, 1)", BAD, x -> x.apart(0, 1, 1));
        all.add("tabled(0)", NONE, x -> x.tabled(0));
        all.add("end(1)", BAD, x -> x.end(1));
        all.add("withdraw(0)", BAD, x -> x.withdraw(0));
        all.add("known(0, 1)", NONE, x -> x.known(0, 1));
        for (int k = 0; k < 4; k++) {
            int sheet = k;
            all.add("lay(" + k + ", 0, 7)", NULL, x -> x.lay(sheet, 0, 7));
            all.add("text(" + k + ", 0, 0, 1)", NULL, x -> x.text(sheet, 0, 0, 1));
        }
        return all;
    }

    private static RefusedTest ofSome() {
        RefusedTest all = ofAny();
        all.add("text of nothing", NULL, x -> x.text(2, 0, 0, 1));
        all.add("text of another lane", CAST, x -> x.text(0, 1, 0, 1));
        all.add("text beyond its SHEET", INDEX, x -> x.text(0, 0, 2, 3));
        all.add("text from -1 on", INDEX, x -> x.text(0, 0, -1, 3));
        all.add("text of no FORM", -21, x -> x.text(1, 1, 0, 3));
        all.add("text of no FORM, and beyond", -20, x -> x.text(1, 1, 1, 24));
        all.add("apart of no FORM", BAD, x -> x.apart(1, 5, 3));
        all.add("counted of no SIGN", BAD, x -> x.counted(5));
        all.add("word that is there", BAD, x -> x.word(2, 6));
        all.add("dragged of no NAME", BAD, x -> x.dragged(2, 0, 0));
        all.add("together of no TEXT", BAD, x -> x.together(0, 0, 1, 2));
        all.add("read of no TEXT", BAD, x -> x.read(4, 0));
        all.add("read of more", BAD, x -> x.read(3, 1024));
        all.add("judge of a TEXT of both", BAD, x -> x.judge(3, 1, 1));
        all.add("tabled of none", NONE, x -> x.tabled(5));
        all.add("end beyond", BAD, x -> x.end(25));
        all.add("withdraw once more", STATE, x -> x.withdraw(1));
        all.add("withdraw of one that hung", STATE, x -> x.withdraw(2));
        all.add("withdraw of none", BAD, x -> x.withdraw(3));
        all.add("day ahead", BAD, x -> x.day(4));
        all.add("lay on nothing", NULL, x -> x.lay(2, 0, 7));
        for (int i : new int[] {-1, 4, 59, 60, MIN, MAX}) all.add("lay(0, " + i + ", 7)", INDEX, x -> x.lay(0, i, 7));
        return all;
    }

    private static RefusedTest ofFull() {
        RefusedTest all = ofAny();
        for (int v : new int[] {0, 1, 4095}) all.add("a 25th FORM", FULL, x -> x.form(v));
        all.add("a ninth TEXT", FULL, x -> x.text(0, 0, 0, 24));
        all.add("a ninth TEXT of one CELL", FULL, x -> x.text(0, 0, 59, 1));
        all.add("a ninth TEXT of another lane", CAST, x -> x.text(1, 2, 0, 1));
        all.add("a ninth TEXT beyond", INDEX, x -> x.text(0, 0, 60, 1));
        all.add("a ninth ACCOUNT", FULL, x -> x.account(1, 0));
        all.add("a fifth NAME", FULL, x -> x.name(1, 0));
        all.add("a 13th WORD", FULL, x -> x.word(1, 0));
        all.add("a 13th WORD that is there", BAD, x -> x.word(6, 4095));
        for (long v : new long[] {0, -1, Long.MIN_VALUE, Long.MAX_VALUE}) all.add("a 161st byte", FULL, x -> x.feed(v));
        all.add("withdraw once more", STATE, x -> x.withdraw(0));
        all.add("withdraw of one that hung", STATE, x -> x.withdraw(19));
        all.add("day ahead", BAD, x -> x.day(98));
        for (int k = 0; k < 4; k++) {
            int sheet = k;
            for (int i : new int[] {-1, 60, MIN, MAX}) all.add("lay beyond", INDEX, x -> x.lay(sheet, i, 7));
        }
        return all;
    }

    // ---- texts of CLAIMS with a FAULT

    private static void textsWithFaults() {
        String[] texts = {"{", "sign 5; name 9 on 0; {", "sign 9; sign 7 7", "sign 9", "sign 7; word 1 on 0; word 2 on 1;",
            "sign 7; word 1 on 0, 0;", "sign 8; word 1; sign 8 on 0;"};
        long[] due = {-10, -31, -25, -16, -41, -31, -31};
        for (int n = 0; n < texts.length; n++) {
            String text = texts[n];
            textWithFault("'" + text + "' of one that has some", due[n], () -> fed(Scripts.some(), text));
        }
        textWithFault("what one that has some has on THE TAPE", -33, Scripts::some);
        textWithFault("what one that is full has on THE TAPE", -10, Scripts::full);
        textWithFault("'sign 1; ;' of a new object", -18, () -> fed(new UnreadScript(), "sign 1; ;"));
    }

    private static UnreadScript fed(UnreadScript x, String text) {
        x.end(0);
        Scripts.feed(x, text);
        return x;
    }

    private static void textWithFault(String told, long due, Supplier<UnreadScript> made) {
        for (Looks.Look look : Looks.besideTheFault()) {
            UnreadScript x = made.get();
            check.due(told, x.claims(), due);
            check.due("count(9)", x.count(9), 0);
            UnreadScript y = made.get();
            y.end(0);
            Looks.same(check, told, Looks.at(x, look), Looks.at(y, look));
        }
    }
}
