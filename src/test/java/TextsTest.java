/** Promises 6 to 12: TEXTS, COUNT, BESIDE, CHANCE, which way the script runs. */
public final class TextsTest {
    private static final int BAD = -1, FULL = -3, NONE = -4;
    private static final Check check = new Check();

    public static void main(String[] args) {
        textRefused();
        textByLanes();
        textsFull();
        drop();
        textOf();
        counted();
        beside();
        chance();
        runs();
        mostWords();
        check.finish();
    }

    private static void textRefused() {
        check.promise("promise 6");
        UnreadScript x = Scripts.withForms(3);
        check.due("k -1", x.text(-1, 0, 0, 1), BAD);
        check.due("k 4", x.text(4, 0, 0, 1), BAD);
        check.due("lane -1", x.text(0, -1, 0, 1), BAD);
        check.due("lane 3", x.text(0, 3, 0, 1), BAD);
        check.due("n 0", x.text(0, 0, 0, 0), BAD);
        check.due("n 25", x.text(0, 0, 0, 25), BAD);
        check.due("n 25 of nothing", x.text(0, 3, 0, 25), BAD);
        check.due("nothing", x.text(0, 0, 0, 1), -11);
        x.sheet(0, 1, 4);
        check.due("another lane, and no cell", x.text(0, 0, 9, 1), -13);
        check.due("another lane", x.text(0, 2, 0, 1), -13);
        check.due("f -1", x.text(0, 1, -1, 2), -12);
        check.due("f MIN", x.text(0, 1, Integer.MIN_VALUE, 24), -12);
        check.due("f MAX", x.text(0, 1, Integer.MAX_VALUE, 24), -12);
        check.due("f 4", x.text(0, 1, 4, 1), -12);
        check.due("n 5", x.text(0, 1, 0, 5), -12);
        x.lay(0, 3, 3);
        check.due("no form at 3", x.text(0, 1, 0, 5), -23);
        check.due("no form, from cell 2", x.text(0, 1, 2, 2), -21);
        check.due("index behind no form", x.text(0, 1, 3, 2), -20);
        x.lay(0, 1, -3);
        check.due("-3 at 1", x.text(0, 1, 0, 4), -21);
        x.lay(0, 2, 2);
        check.due("the last form", x.text(0, 1, 2, 1), 0);
        check.due("count(1)", x.count(1), 1);
        x.sheet(1, 0, 0);
        check.due("a sheet without cells", x.text(1, 0, 0, 1), -12);
    }

    private static void textByLanes() {
        UnreadScript x = Scripts.withForms(24);
        for (int lane = 0; lane < 3; lane++) {
            x.sheet(lane, lane, 60);
            for (int i = 0; i < 24; i++) x.lay(lane, 36 + i, 23 - i);
            x.lay(lane, 37, -1);
            x.lay(lane, 38, -2);
            check.due("text of lane", x.text(lane, lane, 36, 24), lane);
            check.due("index", x.text(lane, lane, 37, 24), -12);
            check.due("cells", x.textOf(lane, 0), 24);
            check.due("cell 0", x.textOf(lane, 10), 23);
            check.due("gap", x.textOf(lane, 11), -1);
            check.due("end", x.textOf(lane, 12), -2);
            check.due("cell 3", x.textOf(lane, 13), 20);
            check.due("cell 23", x.textOf(lane, 33), 0);
        }
        x.lay(0, 36, 5);
        x.sheet(1, 1, 1);
        check.due("a text keeps what it was", x.textOf(0, 10), 23);
        check.due("a text keeps what it was", x.textOf(1, 33), 0);
    }

    private static void textsFull() {
        UnreadScript x = Scripts.withForms(2);
        for (int t = 0; t < 8; t++) check.due("text", Scripts.text(x, "ab"), t);
        check.due("a ninth", Scripts.text(x, "ab"), FULL);
        check.due("a ninth that is bad", Scripts.text(x, "ac"), -21);
        check.due("a ninth of no cells", x.text(3, 2, 1, 2), -20);
        check.due("a ninth without a lane", x.text(3, 3, 0, 2), BAD);
        check.due("count(1)", x.count(1), 8);
        check.due("counted(0)", x.counted(0), 8);
    }

    private static void drop() {
        check.promise("promise 7");
        UnreadScript x = Scripts.withForms(3);
        check.due("drop() of nothing", x.drop(), NONE);
        Scripts.text(x, "ab a");
        Scripts.text(x, "cc b.");
        check.due("drop()", x.drop(), 1);
        check.due("count(1)", x.count(1), 1);
        check.due("counted(2)", x.counted(2), 0);
        check.due("words of text 0", x.textOf(0, 3), 2);
        check.due("text 1", x.textOf(1, 0), -10);
        check.due("text again", Scripts.text(x, "c"), 1);
        check.due("words again", x.textOf(1, 3), 1);
        check.due("runs(1)", x.runs(1), 5);
        x.drop();
        check.due("drop()", x.drop(), 0);
        check.due("drop() of nothing", x.drop(), NONE);
        check.due("runs(1) of nothing", x.runs(1), 0);
    }

    private static void textOf() {
        check.promise("promise 8");
        UnreadScript x = Scripts.withForms(3);
        check.due("no text", x.textOf(0, 0), -10);
        Scripts.text(x, "  ab.. . abc   ca  .");
        int[] want = {20, 7, 4, 5, 2, 3};
        for (int what = 0; what < 6; what++) check.due("textOf(0, " + what + ")", x.textOf(0, what), want[what]);
        for (int what = 6; what < 10; what++) check.due("textOf(0, " + what + ")", x.textOf(0, what), -10);
        check.due("textOf(0, -1)", x.textOf(0, -1), -10);
        check.due("textOf(0, MIN)", x.textOf(0, Integer.MIN_VALUE), -10);
        check.due("textOf(0, MAX)", x.textOf(0, Integer.MAX_VALUE), -10);
        check.due("cell 0", x.textOf(0, 10), -2);
        check.due("cell 3", x.textOf(0, 13), 1);
        check.due("cell 4", x.textOf(0, 14), -1);
        check.due("cell 19", x.textOf(0, 29), -1);
        check.due("cell 20", x.textOf(0, 30), -10);
        check.due("text -1", x.textOf(-1, 0), -10);
        check.due("text 1", x.textOf(1, 0), -10);
        Scripts.text(x, ".");
        check.due("words", x.textOf(1, 3), 1);
        check.due("whole words", x.textOf(1, 4), 0);
        check.due("longest", x.textOf(1, 5), 0);
        Scripts.text(x, "a b c a b c a b c a b c");
        check.due("twelve words", x.textOf(2, 4), 12);
        Scripts.text(x, "  ");
        check.due("no words", x.textOf(3, 3), 0);
        Scripts.text(x, "abca bc .");
        check.due("the longest is the first", x.textOf(4, 5), 4);
        UnreadScript y = Scripts.withForms(3);
        Scripts.text(y, "abca bc");
        check.due("the longest is the first of all", y.textOf(0, 5), 4);
        x.likeness(12);
        check.due("all forms one sign", x.textOf(0, 13), 0);
        check.due("gap as it is", x.textOf(0, 14), -1);
    }

    private static void counted() {
        check.promise("promise 9");
        UnreadScript x = Scripts.withForms(3);
        x.form(8);
        Scripts.text(x, "ab.a c");
        Scripts.text(x, "da");
        check.due("a", x.counted(0), 3);
        check.due("c", x.counted(2), 1);
        check.due("d", x.counted(3), 1);
        x.likeness(1);
        check.due("a and d", x.counted(0), 4);
        check.due("d is no sign", x.counted(3), BAD);
        check.due("-1", x.counted(-1), BAD);
        check.due("-2", x.counted(-2), BAD);
        check.due("4", x.counted(4), BAD);
        check.due("count(2)", x.count(2), 6);
    }

    private static void beside() {
        check.promise("promise 10");
        UnreadScript x = Scripts.withForms(3);
        Scripts.text(x, "aab a.b abba");
        Scripts.text(x, "bc");
        check.due("aa", x.beside(0, 0), 1);
        check.due("ab", x.beside(0, 1), 2);
        check.due("ba", x.beside(1, 0), 1);
        check.due("bb", x.beside(1, 1), 1);
        check.due("ac, over two texts", x.beside(0, 2), 0);
        check.due("bc", x.beside(1, 2), 1);
        check.due("bad a", x.beside(3, 0), BAD);
        check.due("bad b", x.beside(0, 3), BAD);
        check.due("gap", x.beside(0, -1), BAD);
        check.due("end", x.beside(-2, 0), BAD);
        Scripts.text(x, "ccc");
        check.due("ccc", x.beside(2, 2), 2);
        x.likeness(3);
        check.due("no sign any longer", x.beside(0, 1), BAD);
        check.due("all one", x.beside(0, 0), 8);
    }

    private static void chance() {
        check.promise("promise 11");
        UnreadScript x = Scripts.withForms(3);
        check.due("above, no texts", x.chance(0, 1, 0), 0);
        check.due("below, no texts", x.chance(0, 1, 1), 1);
        Scripts.text(x, "a");
        check.due("above, one sign", x.chance(0, 0, 0), 0);
        check.due("below, one sign", x.chance(0, 0, 1), 1);
        Scripts.text(x, ".b ");
        check.due("above, none beside", x.chance(0, 1, 0), 0);
        check.due("below, none beside", x.chance(0, 1, 1), 1);
        Scripts.text(x, "aab");
        // 5 SIGNS, 2 places, a 3 times, b 2 times: 12 by 20 and 2 * 3 * 2 by 20.
        check.due("above ab", x.chance(0, 1, 0), 3);
        check.due("below ab", x.chance(0, 1, 1), 5);
        check.due("above aa", x.chance(0, 0, 0), 3);
        check.due("above bb", x.chance(1, 1, 0), 1);
        check.due("below bb", x.chance(1, 1, 1), 5);
        check.due("above ca", x.chance(2, 0, 0), 0);
        check.due("below ca", x.chance(2, 0, 1), 1);
        check.due("what 2", x.chance(0, 1, 2), BAD);
        check.due("what -1", x.chance(0, 1, -1), BAD);
        check.due("a 3", x.chance(3, 1, 0), BAD);
        check.due("b -1", x.chance(0, -1, 1), BAD);
        UnreadScript y = Scripts.withForms(2);
        Scripts.text(y, "ab");
        check.due("above, two signs", y.chance(0, 1, 0), 1);
        check.due("below, two signs", y.chance(0, 1, 1), 2);
        check.due("above, two signs alike", y.chance(0, 0, 0), 0);
        check.due("below, two signs alike", y.chance(0, 0, 1), 1);
        Scripts.text(x, "abababababababababababab");
        for (int n = 0; n < 4; n++) Scripts.text(x, "aaaaaaaaaaaaaaaaaaaaaaaa");
        // 125 SIGNS, 117 places, a 111 times, b 14 times.
        check.due("above many", x.chance(0, 1, 0), 117L * 111 * 14 / 2);
        check.due("below many", x.chance(0, 1, 1), 125L * 124 / 2);
        check.due("above above 1", x.chance(0, 0, 0), 117L * 111 * 110 / 10);
    }

    private static void mostWords() {
        check.promise("promises 6 to 12, all full");
        UnreadScript x = Scripts.withForms(24);
        for (int t = 0; t < 8; t++) {
            check.due("text", Scripts.text(x, "a b a b a b a b a b a " + (t == 7 ? "xv" : "x ")), t);
            check.due("words", x.textOf(t, 4), 12);
        }
        check.due("runs(1)", x.runs(1), 48 * 48 + 40 * 40 + 8 * 8);
        check.due("runs(2)", x.runs(2), 48 * 48 + 40 * 40 + 7 * 7 + 1);
        check.due("runs(0)", x.runs(0), -1);
        check.due("counted(23)", x.counted(23), 8);
        check.due("beside(23, 21)", x.beside(23, 21), 1);
        check.due("count(2)", x.count(2), 97);
        check.due("chance(23, 21, 0)", x.chance(23, 21, 0), 1);
        check.due("chance(23, 21, 1)", x.chance(23, 21, 1), 97 * 96 / 8);
        check.due("signs(0)", x.signs(0), 24);
        check.due("akin(21, 23)", x.akin(21, 23), 0);
        check.due("grid(2, 1)", x.grid(2, 1), 0);
        x.word(1, 1);
        check.due("tabled(2)", x.tabled(2), 23);
        check.due("read", x.read(255, 1), 48);
        check.due("read", x.read(255, 1 + 4 + 16), 95);
        check.due("best", x.best(255, 1), 95);
        check.due("best tables", x.best(255, 2), 4);
        check.due("judge", x.judge(127, 128, 0), 11);
        // Of the four SIGNS a and b must have a 1, of which there are three.
        check.due("judge", x.judge(127, 128, 1), 12);
    }

    private static void runs() {
        check.promise("promise 12");
        UnreadScript x = Scripts.withForms(4);
        for (int what = 0; what < 3; what++) check.due("runs of nothing", x.runs(what), 0);
        check.due("runs(3)", x.runs(3), -10);
        check.due("runs(-1)", x.runs(-1), -10);
        Scripts.text(x, "ad bd cd");
        check.due("runs(0)", x.runs(0), 1);
        check.due("runs(1)", x.runs(1), 3);
        check.due("runs(2)", x.runs(2), 9);
        Scripts.text(x, "da d.b db dc da");
        check.due("runs(0)", x.runs(0), -1);
        check.due("runs(1)", x.runs(1), 19);
        check.due("runs(2)", x.runs(2), 15);
        x.drop();
        Scripts.text(x, "da db dc d");
        check.due("runs(1)", x.runs(1), 19);
        check.due("runs(2)", x.runs(2), 19);
        check.due("runs(0)", x.runs(0), 0);
        x.likeness(12);
        check.due("runs(1) of one sign", x.runs(1), 49);
    }
}
