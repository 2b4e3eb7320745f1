/** Promises 1 to 5: a new object, FORMS, LIKENESS, SIGNS. */
public final class FormsTest {
    private static final int BAD = -1, FULL = -3, NONE = -4;
    private static final Check check = new Check();

    public static void main(String[] args) {
        constants();
        newObject();
        forms();
        likeness();
        signOfForm();
        signs();
        check.finish();
    }

    private static void constants() {
        check.promise("face");
        check.due("BAD", UnreadScript.BAD, -1);
        check.due("STATE", UnreadScript.STATE, -2);
        check.due("FULL", UnreadScript.FULL, -3);
        check.due("NONE", UnreadScript.NONE, -4);
    }

    private static void newObject() {
        check.promise("promise 1");
        UnreadScript x = new UnreadScript();
        for (int what = 0; what < 10; what++) check.due("count(" + what + ")", x.count(what), 0);
        check.due("count(10)", x.count(10), NONE);
        check.due("likeness(5)", x.likeness(5), 1);
        check.due("day(0)", x.day(0), 0);
        for (int k = 0; k < 4; k++) check.due("lay", x.lay(k, 0, 0), -11);
        check.due("fault()", x.fault(), 0);
        check.due("signs(0)", x.signs(0), 0);
        check.due("values(0)", x.values(0), 1680);
        // Objects know nothing of one another.
        x.form(1);
        check.due("count(0) of another", new UnreadScript().count(0), 0);
    }

    private static void forms() {
        check.promise("promise 2");
        UnreadScript x = new UnreadScript();
        check.due("form(-1)", x.form(-1), BAD);
        check.due("form(4096)", x.form(4096), BAD);
        check.due("form(MIN)", x.form(Integer.MIN_VALUE), BAD);
        check.due("form(MAX)", x.form(Integer.MAX_VALUE), BAD);
        check.due("form(4095)", x.form(4095), 0);
        for (int f = 1; f < 24; f++) check.due("form(0)", x.form(0), f);
        check.due("a 25th form", x.form(0), FULL);
        check.due("a bad 25th form", x.form(4096), BAD);
        check.due("count(0)", x.count(0), 24);
        check.due("sign(23)", x.sign(23), 1);
    }

    private static void likeness() {
        check.promise("promise 3");
        UnreadScript x = new UnreadScript();
        check.due("likeness(12)", x.likeness(12), 1);
        check.due("likeness(13)", x.likeness(13), BAD);
        check.due("likeness(-1)", x.likeness(-1), BAD);
        check.due("likeness(0)", x.likeness(0), 12);
        check.due("likeness(1)", x.likeness(1), 0);
        x.form(0);
        x.form(4095);
        check.due("sign(1)", x.sign(1), 1);
        x.likeness(11);
        check.due("sign(1) by 11", x.sign(1), 1);
        x.likeness(12);
        check.due("sign(1) by 12", x.sign(1), 0);
    }

    private static void signOfForm() {
        check.promise("promise 4");
        UnreadScript x = new UnreadScript();
        check.due("sign(0) of nothing", x.sign(0), BAD);
        x.form(0b111);
        x.form(0b1);
        x.form(0b10000);
        check.due("sign(1) alone", x.sign(1), 1);
        // A FORM between two SIGNS makes one of them, whatever the order in which they came.
        x.form(0b11);
        check.due("sign(1) joined", x.sign(1), 0);
        check.due("sign(3)", x.sign(3), 0);
        check.due("sign(2)", x.sign(2), 2);
        x.form(0b0);
        check.due("sign(2) by a row", x.sign(2), 0);
        check.due("sign(4)", x.sign(4), 0);
        check.due("sign(5)", x.sign(5), BAD);
        check.due("sign(-1)", x.sign(-1), BAD);
        x.likeness(0);
        for (int f = 0; f < 5; f++) check.due("sign by 0", x.sign(f), f);
        x.form(0b11);
        check.due("forms that are alike", x.sign(5), 3);
    }

    private static void signs() {
        check.promise("promise 5");
        UnreadScript x = new UnreadScript();
        check.due("signs(0) of nothing", x.signs(0), 0);
        check.due("signs(1) of nothing", x.signs(1), 0);
        check.due("signs(2) of nothing", x.signs(2), NONE);
        check.due("signs(3) of nothing", x.signs(3), 0);
        check.due("signs(4)", x.signs(4), BAD);
        check.due("signs(-1)", x.signs(-1), BAD);
        x.form(0);
        check.due("signs(3) of one", x.signs(3), 0);
        check.due("signs(2) of one", x.signs(2), 0);
        x.form(4095);
        check.due("signs(0) of two", x.signs(0), 2);
        check.due("signs(2) of two", x.signs(2), 0);
        check.due("signs(3) of two", x.signs(3), 12);
        x.form(4094);
        check.due("signs(0)", x.signs(0), 2);
        check.due("signs(1)", x.signs(1), 2);
        check.due("signs(2)", x.signs(2), 1);
        check.due("signs(3)", x.signs(3), 11);
        x.form(1);
        check.due("signs(2) of several", x.signs(2), 0);
        check.due("signs(3) of four", x.signs(3), 11);
        x.form(63);
        check.due("signs(3) of five", x.signs(3), 6);
        check.due("likeness(1) still", x.likeness(1), 1);
        check.due("signs(0) still", x.signs(0), 3);
    }
}
