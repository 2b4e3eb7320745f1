/** Promises 19 to 26: NAMES, WORDS of the tongue, TABLES, SHUFFLES. */
public final class SoundsTest {
    private static final int BAD = -1, FULL = -3, NONE = -4;
    private static final Check check = new Check();

    public static void main(String[] args) {
        name();
        dragged();
        together();
        word();
        tabled();
        read();
        best();
        bestOfSix();
        judge();
        check.finish();
    }

    private static void name() {
        check.promise("promise 19");
        UnreadScript x = new UnreadScript();
        check.due("n 0", x.name(0, 0), BAD);
        check.due("n 9", x.name(9, 0), BAD);
        check.due("n MAX", x.name(Integer.MAX_VALUE, 0), BAD);
        check.due("sounds -1", x.name(3, -1), BAD);
        check.due("sounds 4 of one", x.name(1, 4), BAD);
        check.due("sounds 65536 of eight", x.name(8, 65536), BAD);
        check.due("sounds MAX", x.name(8, Integer.MAX_VALUE), BAD);
        check.due("sounds 65535 of eight", x.name(8, 65535), 0);
        check.due("sounds 3 of one", x.name(1, 3), 1);
        check.due("the same once more", x.name(1, 3), 2);
        check.due("name(2, 0)", x.name(2, 0), 3);
        check.due("a fifth", x.name(2, 0), FULL);
        check.due("a bad fifth", x.name(1, 4), BAD);
        check.due("count(4)", x.count(4), 4);
    }

    private static void dragged() {
        check.promise("promise 20");
        UnreadScript x = Scripts.withForms(4);
        x.name(3, Scripts.sounds("001"));
        x.name(3, Scripts.sounds("321"));
        x.name(1, 2);
        Scripts.text(x, "aab bba b.a aba ccd");
        int[] doubled = {3, 0, 16};
        int[] unlike = {0, NONE, NONE};
        int[] one = {14, 0, 18};
        for (int what = 0; what < 3; what++) {
            check.due("001", x.dragged(0, 0, what), doubled[what]);
            check.due("321", x.dragged(1, 0, what), unlike[what]);
            check.due("2", x.dragged(2, 0, what), one[what]);
        }
        Scripts.text(x, "abcdd");
        check.due("321 in abcdd", x.dragged(1, 1, 0), 2);
        check.due("first", x.dragged(1, 1, 1), 0);
        check.due("last", x.dragged(1, 1, 2), 1);
        Scripts.text(x, "ab");
        check.due("too short", x.dragged(1, 2, 0), 0);
        check.due("no name", x.dragged(3, 0, 0), BAD);
        check.due("name -1", x.dragged(-1, 0, 0), BAD);
        check.due("no text", x.dragged(0, 3, 0), BAD);
        check.due("text -1", x.dragged(0, -1, 0), BAD);
        check.due("what 3", x.dragged(1, 0, 3), BAD);
        check.due("what -1", x.dragged(1, 0, -1), BAD);
        x.likeness(12);
        check.due("one sign", x.dragged(0, 0, 0), 0);
        x.name(8, 0);
        Scripts.text(x, "aaaabbbbb");
        check.due("eight alike", x.dragged(3, 3, 0), 2);
    }

    private static void together() {
        check.promise("promise 21");
        UnreadScript x = Scripts.withForms(4);
        x.name(2, Scripts.sounds("01"));
        x.name(2, Scripts.sounds("10"));
        x.name(2, Scripts.sounds("12"));
        Scripts.text(x, "abcd");
        Scripts.text(x, "ba cb");
        check.due("01, 01", x.together(0, 0, 0, 0), 3);
        check.due("01, 10", x.together(0, 0, 1, 1), 2);
        check.due("10, 01", x.together(1, 1, 0, 0), 2);
        check.due("01, 12", x.together(0, 0, 2, 0), 2);
        check.due("12, 01 other way", x.together(2, 0, 0, 0), 2);
        check.due("01, 12 in another", x.together(0, 0, 2, 1), 0);
        check.due("10, 12 in one", x.together(1, 1, 2, 1), 0);
        check.due("a", x.together(3, 0, 0, 0), BAD);
        check.due("t", x.together(0, 2, 0, 0), BAD);
        check.due("b", x.together(0, 0, -1, 0), BAD);
        check.due("u", x.together(0, 0, 0, -1), BAD);
        x.name(1, 3);
        // Three signs of a row that the two of 01 are not, at each of three places of 01.
        check.due("01, 3", x.together(0, 0, 3, 0), 6);
    }

    private static void word() {
        check.promise("promise 22");
        UnreadScript x = new UnreadScript();
        check.due("n 0", x.word(0, 0), BAD);
        check.due("n 7", x.word(7, 0), BAD);
        check.due("sounds -1", x.word(2, -1), BAD);
        check.due("sounds 16 of two", x.word(2, 16), BAD);
        check.due("sounds 4096 of six", x.word(6, 4096), BAD);
        check.due("sounds 4095 of six", x.word(6, 4095), 0);
        for (int n = 1; n < 7; n++) check.due("zeros of any length", x.word(n, 0), n);
        check.due("there", x.word(6, 4095), BAD);
        check.due("there", x.word(1, 0), BAD);
        for (int i = 1; i < 6; i++) check.due("word", x.word(3, i), 6 + i);
        check.due("a 13th", x.word(3, 6), FULL);
        check.due("a 13th that is there", x.word(3, 5), BAD);
        check.due("count(5)", x.count(5), 12);
    }

    private static void tabled() {
        check.promise("promise 23");
        UnreadScript x = Scripts.withForms(9);
        check.due("no texts", x.tabled(0), NONE);
        check.due("-1", x.tabled(-1), BAD);
        check.due("6", x.tabled(6), BAD);
        Scripts.text(x, "hh.g ih g");
        int[] want = {7, 6, 8, NONE, NONE, NONE};
        for (int i = 0; i < 6; i++) check.due("tabled(" + i + ")", x.tabled(i), want[i]);
        Scripts.text(x, "cba ed cbb");
        int[] more = {1, 7, 2, 6, 0, 3};
        for (int i = 0; i < 6; i++) check.due("tabled(" + i + ")", x.tabled(i), more[i]);
        x.form(1);
        x.likeness(1);
        Scripts.text(x, "jjj");
        check.due("j is a", x.tabled(0), 0);
    }

    private static void read() {
        check.promise("promise 24");
        UnreadScript x = Scripts.withForms(8);
        check.due("read(0, 0) of nothing", x.read(0, 0), 0);
        check.due("read(0, 1) of nothing", x.read(0, 1), BAD);
        check.due("read(1, 0) of nothing", x.read(1, 0), BAD);
        x.word(2, Scripts.sounds("12"));
        x.word(3, Scripts.sounds("021"));
        x.word(6, Scripts.sounds("000000"));
        Scripts.text(x, "ab ba ab cba a.b aaaaaa");
        Scripts.text(x, "ab aaaaaaa");
        // SIGN 0 is a, SIGN 1 is b, SIGN 2 is c.
        check.due("tabled(1)", x.tabled(1), 1);
        check.due("text 0", x.read(1, 1 + 4 * 2), 3);
        check.due("both texts", x.read(3, 1 + 4 * 2), 4);
        check.due("text 1", x.read(2, 1 + 4 * 2), 1);
        check.due("no text", x.read(0, 1 + 4 * 2), 0);
        check.due("all zero", x.read(3, 0), 1);
        check.due("the other way", x.read(3, 2 + 4), 1);
        check.due("texts 4", x.read(4, 0), BAD);
        check.due("texts -1", x.read(-1, 0), BAD);
        check.due("texts MAX", x.read(Integer.MAX_VALUE, 0), BAD);
        check.due("table 64", x.read(3, 64), BAD);
        check.due("table -1", x.read(3, -1), BAD);
        Scripts.text(x, "cccddddeeffffghaa");
        // Of eight SIGNS the six most frequent ones have a SOUND: g and h have none.
        x.word(1, 0);
        Scripts.text(x, "g h e c");
        check.due("words of untabled signs", x.read(8, 0), 2);
        check.due("table 4095", x.read(15, 4095), 0);
        check.due("table 4096", x.read(15, 4096), BAD);
    }

    private static void best() {
        check.promise("promise 25");
        UnreadScript x = Scripts.withForms(5);
        check.due("best(0, 0) of nothing", x.best(0, 0), 0);
        check.due("best(0, 1) of nothing", x.best(0, 1), 0);
        check.due("best(0, 2) of nothing", x.best(0, 2), 1);
        check.due("what 3", x.best(0, 3), BAD);
        check.due("what -1", x.best(0, -1), BAD);
        check.due("texts 1", x.best(1, 0), BAD);
        Scripts.text(x, "aab b");
        x.word(1, 3);
        x.word(1, 2);
        x.word(3, Scripts.sounds("112"));
        check.due("table", x.best(1, 0), 1 + 4 * 2);
        check.due("read", x.best(1, 1), 2);
        check.due("tables", x.best(1, 2), 1);
        x.word(3, Scripts.sounds("003"));
        check.due("SIGN 0 ahead of SIGN 1", x.best(1, 0), 0 + 4 * 3);
        check.due("tables", x.best(1, 2), 2);
        check.due("no texts", x.best(0, 0), 0);
        check.due("no texts", x.best(0, 2), 16);
        check.due("texts 2", x.best(2, 0), BAD);
        check.due("texts -1", x.best(-1, 0), BAD);
    }

    private static void bestOfSix() {
        UnreadScript x = Scripts.withForms(8);
        Scripts.text(x, "aaaaaabbbbbccccdddeef");
        Scripts.text(x, "abcdef");
        Scripts.text(x, "gh");
        x.word(6, Scripts.sounds("012332"));
        check.due("read", x.best(2, 1), 1);
        check.due("table", x.best(2, 0), 0 + 4 + 16 * 2 + 64 * 3 + 256 * 3 + 1024 * 2);
        check.due("tables", x.best(2, 2), 1);
        check.due("tables of none", x.best(5, 2), 4096);
        check.due("shuffles", x.judge(2, 5, 2), 720);
        check.due("shuffles as good", x.judge(2, 5, 1), 720);
        check.due("shuffles as good", x.judge(4, 2, 1), 720);
        x.word(2, 0);
        x.word(6, Scripts.sounds("000000"));
        check.due("least of two", x.best(2, 0), 0);
    }

    private static void judge() {
        check.promise("promise 26");
        UnreadScript x = Scripts.withForms(3);
        check.due("shuffles of none", x.judge(0, 0, 2), 1);
        check.due("as good, of none", x.judge(0, 0, 1), 1);
        check.due("read of none", x.judge(0, 0, 0), 0);
        x.word(3, Scripts.sounds("012"));
        x.word(2, Scripts.sounds("01"));
        x.word(1, 3);
        Scripts.text(x, "abc abc");
        Scripts.text(x, "ab ab ba c");
        check.due("read of the others", x.judge(1, 2, 0), 2);
        check.due("shuffles as good", x.judge(1, 2, 1), 1);
        check.due("shuffles", x.judge(1, 2, 2), 6);
        // THE BEST TABLE for text 1 is a 0, b 1, c 3.
        check.due("the other way", x.judge(2, 1, 0), 0);
        check.due("all as good", x.judge(2, 1, 1), 6);
        check.due("against nothing", x.judge(3, 0, 0), 0);
        check.due("a text of both", x.judge(3, 2, 0), BAD);
        check.due("texts 4", x.judge(4, 0, 0), BAD);
        check.due("others 4", x.judge(0, 4, 0), BAD);
        check.due("texts -1", x.judge(-1, 0, 0), BAD);
        check.due("others -1", x.judge(0, -1, 0), BAD);
        check.due("what 3", x.judge(1, 2, 3), BAD);
        check.due("what -1", x.judge(1, 2, -1), BAD);
        // Of SOUNDS that are alike each is its own: a 0, b 1, c 0.
        UnreadScript y = Scripts.withForms(3);
        y.word(4, Scripts.sounds("0010"));
        y.word(2, Scripts.sounds("00"));
        Scripts.text(y, "aabc");
        Scripts.text(y, "ac");
        check.due("two alike", y.judge(1, 2, 1), 2);
        check.due("two alike", y.judge(1, 2, 2), 6);
    }
}
