/** Promises 19 to 26: a test for each sentence that names a boundary. */
public final class SoundBoundsTest {
    private static final int BAD = -1, FULL = -3, NONE = -4;
    private static final int MIN = Integer.MIN_VALUE, MAX = Integer.MAX_VALUE;
    private static final Check check = new Check();

    public static void main(String[] args) {
        nameOfOneToEightSounds();
        nameOfNumbersThatFit();
        namesAreFour();
        nameOnceMore();
        nameBadAheadOfFull();
        nameHighestFirst();
        draggedNoNameNoText();
        draggedWithoutSuchNumber();
        draggedBadAheadOfNone();
        draggedNone();
        fitsWithAsManySignsAsSounds();
        fitsWithoutEndOrGap();
        fitsAlikeAndUnlike();
        fitsAtFirstAndLastPlace();
        togetherNoNameNoText();
        togetherAtOnePlace();
        togetherAlikeAndUnlike();
        togetherNone();
        togetherEachFitsByItself();
        togetherOfLongAndShort();
        togetherAtTheMost();
        wordOfOneToSixSounds();
        wordOfNumbersThatFit();
        wordThatIsThere();
        wordsAreTwelve();
        wordBadAheadOfFull();
        tabledZeroToFive();
        tabledNone();
        tabledMostFrequent();
        tabledOfAllTexts();
        readNoSuchTexts();
        readTablesThatFit();
        readOfNoSigns();
        readOfNoWords();
        readWordsOfOneToSix();
        readWholeWordsWithSounds();
        readSignZeroTheLowest();
        bestWithoutSuchNumber();
        bestOfNothing();
        bestOfNoTexts();
        bestOfSeveralTheLeast();
        bestAmongAllTables();
        bestTablesThatHaveAsMuch();
        judgeNoSuchTexts();
        judgeTextOfBoth();
        judgeWithoutSuchNumber();
        judgeOfNothing();
        judgeHowManyShuffles();
        judgeAtLeastAsMany();
        judgeSoundsThatAreAlike();
        check.finish();
    }

    // ---- Promise 19

    private static void nameOfOneToEightSounds() {
        check.promise("19: n SOUNDS (1 to 8); BAD");
        UnreadScript x = new UnreadScript();
        for (int n : new int[] {0, -1, 9, 16, 32, MIN, MAX}) check.due("n " + n, x.name(n, 0), BAD);
        check.due("count(4)", x.count(4), 0);
        check.due("n 1", x.name(1, 0), 0);
        check.due("n 8", x.name(8, 0), 1);
    }

    private static void nameOfNumbersThatFit() {
        check.promise("19: BAD: also a number that has more");
        for (int n = 1; n <= 8; n++) {
            UnreadScript x = new UnreadScript();
            int more = 1 << 2 * n;
            for (int sounds : new int[] {more, more + 1, 4 * more, -1, MIN, MAX, MIN + 1}) {
                check.due("name(" + n + ", " + sounds + ")", x.name(n, sounds), BAD);
            }
            check.due("the greatest of " + n, x.name(n, more - 1), 0);
            check.due("the least of " + n, x.name(n, 0), 1);
        }
    }

    private static void namesAreFour() {
        check.promise("19: NAMES (4); FULL");
        UnreadScript x = new UnreadScript();
        for (int a = 0; a < 4; a++) check.due("name", x.name(8, a), a);
        check.due("the fifth", x.name(8, 4), FULL);
        check.due("the fifth, of one SOUND", x.name(1, 0), FULL);
        check.due("count(4)", x.count(4), 4);
    }

    private static void nameOnceMore() {
        check.promise("19: A NAME that is there already is one more");
        UnreadScript x = new UnreadScript();
        for (int a = 0; a < 4; a++) check.due("name", x.name(3, 27), a);
    }

    private static void nameBadAheadOfFull() {
        check.promise("19: BAD ahead of FULL");
        UnreadScript x = new UnreadScript();
        for (int a = 0; a < 4; a++) x.name(1, 0);
        check.due("n 0", x.name(0, 0), BAD);
        check.due("n 9", x.name(9, 0), BAD);
        check.due("a number that has more", x.name(1, 4), BAD);
        check.due("below 0", x.name(8, -1), BAD);
    }

    private static void nameHighestFirst() {
        check.promise("19: of a number to the base 4, the highest first");
        UnreadScript x = Scripts.withForms(2);
        Scripts.text(x, "aabbb");
        x.name(4, Scripts.sounds("0011"));
        x.name(3, Scripts.sounds("001"));
        x.name(3, Scripts.sounds("100"));
        check.due("0011", x.dragged(0, 0, 1), 0);
        check.due("001", x.dragged(1, 0, 1), 0);
        check.due("100", x.dragged(2, 0, 1), 1);
        check.due("100 once", x.dragged(2, 0, 0), 1);
    }

    // ---- Promise 20

    private static void draggedNoNameNoText() {
        check.promise("20: BAD");
        UnreadScript x = Scripts.withForms(1);
        check.due("no NAMES, no TEXTS", x.dragged(0, 0, 0), BAD);
        Scripts.text(x, "a");
        check.due("no NAMES", x.dragged(0, 0, 0), BAD);
        x.name(1, 0);
        for (int n : new int[] {1, 4, -1, MIN, MAX}) {
            check.due("NAME " + n, x.dragged(n, 0, 0), BAD);
            check.due("TEXT " + n, x.dragged(0, n, 0), BAD);
        }
        check.due("dragged(0, 0, 0)", x.dragged(0, 0, 0), 1);
        x.drop();
        check.due("no TEXTS", x.dragged(0, 0, 0), BAD);
    }

    private static void draggedWithoutSuchNumber() {
        check.promise("20: BAD, no such number");
        UnreadScript x = Scripts.withForms(1);
        Scripts.text(x, "a");
        x.name(1, 0);
        for (int what : new int[] {-1, 3, MIN, MAX}) check.due("what " + what, x.dragged(0, 0, what), BAD);
    }

    private static void draggedBadAheadOfNone() {
        check.promise("20: BAD ahead of NONE");
        UnreadScript x = Scripts.withForms(1);
        Scripts.text(x, ".");
        x.name(1, 0);
        check.due("what 3", x.dragged(0, 0, 3), BAD);
        check.due("NAME 1", x.dragged(1, 0, 1), BAD);
        check.due("TEXT 1", x.dragged(0, 1, 2), BAD);
    }

    private static void draggedAre(UnreadScript x, String text, int many, int first, int last) {
        Scripts.text(x, text);
        int[] want = {many, first, last};
        for (int what = 0; what < 3; what++) {
            check.due("dragged along '" + text + "' " + what, x.dragged(0, 0, what), want[what]);
        }
        x.drop();
    }

    private static void draggedNone() {
        check.promise("20: NONE (1, 2)");
        UnreadScript x = Scripts.withForms(2);
        x.name(2, 1);
        draggedAre(x, "aaaa", 0, NONE, NONE);
        draggedAre(x, ".", 0, NONE, NONE);
        draggedAre(x, "aab", 1, 1, 1);
    }

    private static void fitsWithAsManySignsAsSounds() {
        check.promise("20: as many SIGNS as it has SOUNDS");
        UnreadScript x = Scripts.withForms(24);
        x.name(8, 0);
        draggedAre(x, "aaaaaaa", 0, NONE, NONE);
        draggedAre(x, "aaaaaaaa", 1, 0, 0);
        draggedAre(x, "aaaaaaaaa", 2, 0, 1);
        draggedAre(x, "aaaaaaaaaaaaaaaaaaaaaaaa", 17, 0, 16);
        draggedAre(x, "a", 0, NONE, NONE);
        UnreadScript y = Scripts.withForms(2);
        y.name(1, 3);
        draggedAre(y, "a", 1, 0, 0);
        draggedAre(y, "abababababababababababab", 24, 0, 23);
    }

    private static void fitsWithoutEndOrGap() {
        check.promise("20: without end or gap");
        UnreadScript x = Scripts.withForms(2);
        x.name(2, 0);
        draggedAre(x, "a a.a", 0, NONE, NONE);
        draggedAre(x, " aa.aa ", 2, 1, 4);
        draggedAre(x, "..", 0, NONE, NONE);
        draggedAre(x, "  ", 0, NONE, NONE);
        UnreadScript y = Scripts.withForms(2);
        y.name(2, 1);
        draggedAre(y, "a a.a. .", 0, NONE, NONE);
    }

    private static void fitsAlikeAndUnlike() {
        check.promise("20: SIGNS that are alike have SOUNDS that are alike there, and unlike ones unlike");
        UnreadScript x = Scripts.withForms(4);
        x.name(3, Scripts.sounds("020"));
        draggedAre(x, "aba", 1, 0, 0);
        draggedAre(x, "abc", 0, NONE, NONE);
        draggedAre(x, "aaa", 0, NONE, NONE);
        draggedAre(x, "aab", 0, NONE, NONE);
        draggedAre(x, "ababcbb", 3, 0, 3);
        UnreadScript y = Scripts.withForms(4);
        y.name(4, Scripts.sounds("0123"));
        draggedAre(y, "abcdabcd", 5, 0, 4);
        draggedAre(y, "abcc", 0, NONE, NONE);
        y.likeness(12);
        draggedAre(y, "abcdabcd", 0, NONE, NONE);
    }

    private static void fitsAtFirstAndLastPlace() {
        check.promise("20: the first (1), the last (2)");
        UnreadScript x = Scripts.withForms(2);
        x.name(2, 0);
        draggedAre(x, "aabababababababababababb", 2, 0, 22);
        draggedAre(x, "abababababababababababbb", 2, 21, 22);
        draggedAre(x, "aaabababababababababaaba", 3, 0, 20);
    }

    // ---- Promise 21

    private static void togetherNoNameNoText() {
        check.promise("21: BAD: names, texts");
        UnreadScript x = Scripts.withForms(1);
        check.due("no NAMES, no TEXTS", x.together(0, 0, 0, 0), BAD);
        x.name(1, 0);
        check.due("no TEXTS", x.together(0, 0, 0, 0), BAD);
        Scripts.text(x, "a");
        for (int n : new int[] {1, 4, 8, -1, MIN, MAX}) {
            check.due("first NAME " + n, x.together(n, 0, 0, 0), BAD);
            check.due("first TEXT " + n, x.together(0, n, 0, 0), BAD);
            check.due("second NAME " + n, x.together(0, 0, n, 0), BAD);
            check.due("second TEXT " + n, x.together(0, 0, 0, n), BAD);
        }
        check.due("together(0, 0, 0, 0)", x.together(0, 0, 0, 0), 1);
    }

    private static void togetherAtOnePlace() {
        check.promise("21: two TEXTS (perhaps one)");
        UnreadScript x = Scripts.withForms(3);
        x.name(2, Scripts.sounds("01"));
        x.name(2, Scripts.sounds("12"));
        Scripts.text(x, "ab");
        check.due("one NAME at one place", x.together(0, 0, 0, 0), 1);
        check.due("two NAMES at one place", x.together(0, 0, 1, 0), 0);
        Scripts.text(x, "abc");
        check.due("places that share a SIGN", x.together(0, 1, 1, 1), 1);
        check.due("the other way", x.together(1, 1, 0, 1), 1);
        check.due("not backwards", x.together(1, 0, 0, 1), 0);
    }

    private static void togetherAlikeAndUnlike() {
        check.promise("21: SIGNS that are alike in both have SOUNDS that are alike, unlike ones unlike");
        UnreadScript x = Scripts.withForms(4);
        x.name(2, Scripts.sounds("01"));
        x.name(2, Scripts.sounds("23"));
        x.name(2, Scripts.sounds("10"));
        Scripts.text(x, "ab");
        Scripts.text(x, "cd");
        Scripts.text(x, "ba");
        int[][] want = {{1, 0, 0}, {0, 1, 0}, {0, 0, 1}};
        for (int u = 0; u < 3; u++) {
            for (int b = 0; b < 3; b++) {
                check.due("NAME " + b + " in TEXT " + u, x.together(0, 0, b, u), want[u][b]);
            }
        }
    }

    private static void togetherNone() {
        check.promise("21: how many pairs of places: none of them");
        UnreadScript x = Scripts.withForms(2);
        x.name(1, 0);
        x.name(8, 0);
        Scripts.text(x, "ab");
        Scripts.text(x, ". .");
        check.due("the first NAME FITS nowhere", x.together(1, 0, 0, 0), 0);
        check.due("the second NAME FITS nowhere", x.together(0, 0, 1, 0), 0);
        check.due("no SIGNS", x.together(0, 0, 0, 1), 0);
    }

    private static void togetherEachFitsByItself() {
        check.promise("21: Places at which two NAMES FIT");
        UnreadScript x = Scripts.withForms(4);
        x.name(1, Scripts.sounds("0"));
        x.name(2, Scripts.sounds("11"));
        x.name(2, Scripts.sounds("10"));
        Scripts.text(x, "a");
        Scripts.text(x, "bc");
        Scripts.text(x, "bb");
        Scripts.text(x, "ba");
        int[][] want = {{0, 0, 1, 0}, {0, 0, 0, 1}};
        for (int u = 0; u < 4; u++) {
            for (int b = 1; b <= 2; b++) {
                check.due("NAME 0, NAME " + b + " in TEXT " + u, x.together(0, 0, b, u), want[b - 1][u]);
                check.due("the other way", x.together(b, u, 0, 0), want[b - 1][u]);
            }
        }
    }

    private static void togetherOfLongAndShort() {
        check.promise("21: two TEXTS, a long one and a short one");
        UnreadScript x = Scripts.withForms(3);
        x.name(1, Scripts.sounds("0"));
        x.name(3, Scripts.sounds("012"));
        Scripts.text(x, "b");
        Scripts.text(x, "aaaaaaaaaaaaaaaaaaaaabac");
        check.due("short, long", x.together(0, 0, 0, 1), 1);
        check.due("long, short", x.together(0, 1, 0, 0), 1);
        check.due("at the last places", x.together(0, 0, 1, 1), 1);
        check.due("at the last places", x.together(1, 1, 0, 0), 1);
        x.drop();
        Scripts.text(x, "aaaaaaaaaaaaaaaaaaaacabc");
        check.due("no SIGN that is alike at its beginning", x.together(0, 0, 1, 1), 0);
    }

    private static void togetherAtTheMost() {
        check.promise("21: how many pairs of places: of two TEXTS of 24 CELLS");
        UnreadScript x = Scripts.withForms(2);
        x.name(1, 0);
        x.name(8, 0);
        x.name(1, 1);
        for (int t = 0; t < 2; t++) Scripts.text(x, "aaaaaaaaaaaaaaaaaaaaaaaa");
        Scripts.text(x, "bbbbbbbbbbbbbbbbbbbbbbbb");
        check.due("one SOUND", x.together(0, 0, 0, 1), 24 * 24);
        check.due("eight SOUNDS", x.together(1, 0, 1, 1), 17 * 17);
        check.due("one and eight", x.together(0, 1, 1, 0), 24 * 17);
        check.due("unlike SOUNDS", x.together(0, 0, 2, 2), 24 * 24);
        check.due("alike SIGNS, unlike SOUNDS", x.together(0, 0, 2, 1), 0);
        check.due("unlike SIGNS, alike SOUNDS", x.together(0, 0, 0, 2), 0);
    }

    // ---- Promise 22

    private static void wordOfOneToSixSounds() {
        check.promise("22: (1 to 6 SOUNDS); BAD");
        UnreadScript x = new UnreadScript();
        for (int n : new int[] {0, -1, 7, 8, 16, MIN, MAX}) check.due("n " + n, x.word(n, 0), BAD);
        check.due("count(5)", x.count(5), 0);
        check.due("n 1", x.word(1, 0), 0);
        check.due("n 6", x.word(6, 0), 1);
    }

    private static void wordOfNumbersThatFit() {
        check.promise("22: BAD, a number that has more");
        for (int n = 1; n <= 6; n++) {
            UnreadScript x = new UnreadScript();
            int more = 1 << 2 * n;
            for (int sounds : new int[] {more, more + 1, 4 * more, -1, MIN, MAX, MIN + 1}) {
                check.due("word(" + n + ", " + sounds + ")", x.word(n, sounds), BAD);
            }
            check.due("the greatest of " + n, x.word(n, more - 1), 0);
            check.due("the least of " + n, x.word(n, 0), 1);
        }
    }

    private static void wordThatIsThere() {
        check.promise("22: BAD: also it is there");
        for (int n = 1; n <= 6; n++) {
            UnreadScript x = new UnreadScript();
            for (int sounds : new int[] {0, (1 << 2 * n) - 1}) {
                check.due("word", x.word(n, sounds), sounds == 0 ? 0 : 1);
                check.due("word that is there", x.word(n, sounds), BAD);
            }
            check.due("of other length", x.word(n == 6 ? 5 : n + 1, 0), 2);
            check.due("of other SOUNDS", x.word(n, 1), 3);
            check.due("count(5)", x.count(5), 4);
        }
    }

    private static void wordsAreTwelve() {
        check.promise("22: WORDS of the tongue (12); FULL");
        UnreadScript x = new UnreadScript();
        for (int w = 0; w < 12; w++) check.due("word", x.word(6, 4084 + w), w);
        check.due("the thirteenth", x.word(6, 0), FULL);
        check.due("the thirteenth of one SOUND", x.word(1, 0), FULL);
        check.due("count(5)", x.count(5), 12);
    }

    private static void wordBadAheadOfFull() {
        check.promise("22: BAD ahead of FULL");
        UnreadScript x = new UnreadScript();
        for (int w = 0; w < 12; w++) x.word(2, w);
        for (int w = 0; w < 12; w++) check.due("it is there", x.word(2, w), BAD);
        check.due("n 0", x.word(0, 0), BAD);
        check.due("n 7", x.word(7, 0), BAD);
        check.due("a number that has more", x.word(2, 16), BAD);
        check.due("below 0", x.word(6, -1), BAD);
        check.due("the thirteenth", x.word(2, 12), FULL);
    }

    // ---- Promise 23

    private static void tabledZeroToFive() {
        check.promise("23: BAD: i not 0 to 5");
        UnreadScript x = new UnreadScript();
        for (int n = 0; n < 2; n++) {
            for (int i : new int[] {-1, 6, 7, 23, MIN, MAX}) check.due("tabled(" + i + ")", x.tabled(i), BAD);
            for (int f = 0; f < 8; f++) x.form(f << 3);
            Scripts.text(x, "abcdefgh");
        }
    }

    private static void tabledNone() {
        check.promise("23: NONE");
        UnreadScript x = Scripts.withForms(8);
        for (int i = 0; i < 6; i++) check.due("no TEXTS", x.tabled(i), NONE);
        Scripts.text(x, ". .");
        for (int i = 0; i < 6; i++) check.due("no SIGNS", x.tabled(i), NONE);
        String all = "hgfedcba";
        for (int n = 1; n <= 8; n++) {
            Scripts.text(x, all.substring(0, n));
            // The TEXT is one in which each of the n greatest stands once: the least number is the first.
            for (int i = 0; i < 6; i++) check.due(n + " SIGNS, " + i, x.tabled(i), i < n ? 8 - n + i : NONE);
            x.drop();
        }
    }

    private static void tabledMostFrequent() {
        check.promise("23: the most frequent ones; of several the least number");
        UnreadScript x = Scripts.withForms(24);
        Scripts.text(x, "xxxwwwvvuutsrqponmlkjihg");
        int[] want = {22, 23, 20, 21, 6, 7};
        for (int i = 0; i < 6; i++) check.due("tabled(" + i + ")", x.tabled(i), want[i]);
        Scripts.text(x, "aa");
        int[] then = {22, 23, 0, 20, 21, 6};
        for (int i = 0; i < 6; i++) check.due("tabled(" + i + ")", x.tabled(i), then[i]);
    }

    private static void tabledOfAllTexts() {
        check.promise("23: of those that are in TEXTS");
        UnreadScript x = Scripts.withForms(3);
        Scripts.text(x, "aa.b");
        Scripts.text(x, "bb. c");
        check.due("tabled(0)", x.tabled(0), 1);
        check.due("tabled(1)", x.tabled(1), 0);
        check.due("tabled(2)", x.tabled(2), 2);
        check.due("tabled(3)", x.tabled(3), NONE);
        x.drop();
        check.due("tabled(0)", x.tabled(0), 0);
        check.due("tabled(2)", x.tabled(2), NONE);
    }

    // ---- Promise 24

    private static void readNoSuchTexts() {
        check.promise("24: BAD: also bits of TEXTS that there are not");
        UnreadScript x = Scripts.withForms(1);
        for (int t = 0; t <= 8; t++) {
            check.due(t + " TEXTS, all", x.read((1 << t) - 1, 0), 0);
            for (int texts : new int[] {1 << t, 1 << t | 1, 256, 1 << 30, -1, MIN, MAX}) {
                check.due(t + " TEXTS, " + texts, x.read(texts, 0), BAD);
            }
            if (t < 8) Scripts.text(x, "a");
        }
    }

    private static void readTablesThatFit() {
        check.promise("24: BAD: also a number that has more");
        for (int signs = 0; signs <= 8; signs++) {
            UnreadScript x = Scripts.withForms(8);
            if (signs > 0) Scripts.text(x, "abcdefgh".substring(0, signs));
            int more = 1 << 2 * Math.min(6, signs);
            check.due(signs + " SIGNS, the least", x.read(0, 0), 0);
            check.due(signs + " SIGNS, the greatest", x.read(0, more - 1), 0);
            for (int table : new int[] {more, more + 1, 4096, -1, MIN, MAX}) {
                check.due(signs + " SIGNS, " + table, x.read(0, table), BAD);
            }
        }
    }

    private static void readOfNoSigns() {
        check.promise("24: READ of TEXTS without SIGNS");
        UnreadScript x = new UnreadScript();
        x.word(1, 0);
        check.due("no TEXTS", x.read(0, 0), 0);
        Scripts.text(x, ". .");
        check.due("no SIGNS", x.read(1, 0), 0);
        check.due("a table of no SIGNS", x.read(1, 1), BAD);
    }

    private static void readOfNoWords() {
        check.promise("24: READ without WORDS of the tongue");
        UnreadScript x = Scripts.withForms(6);
        Scripts.text(x, "a ab abc abcd abcde");
        for (int table : new int[] {0, 1, 1023}) check.due("read(1, " + table + ")", x.read(1, table), 0);
    }

    private static void readWordsOfOneToSix() {
        check.promise("24: whose row of SOUNDS is a WORD of the tongue, from 1 to 6 SOUNDS");
        for (int n = 1; n <= 6; n++) {
            UnreadScript x = Scripts.withForms(1);
            x.word(n, (1 << 2 * n) - 1);
            String all = "aaaaaaa";
            for (int length = 1; length <= 7; length++) {
                Scripts.text(x, all.substring(0, length));
                check.due("a WORD of " + length, x.read(1, 3), length == n ? 1 : 0);
                x.drop();
            }
            Scripts.text(x, "aaaaaaaaaaaaaaaaaaaaaaaa");
            check.due("a WORD of 24", x.read(1, 3), 0);
        }
        UnreadScript y = Scripts.withForms(1);
        for (int t = 0; t < 8; t++) Scripts.text(y, "a a a a a a a a a a a a ");
        y.word(1, 2);
        check.due("96 WORDS", y.read(255, 2), 96);
        check.due("96 WORDS of another SOUND", y.read(255, 3), 0);
    }

    private static void readWholeWordsWithSounds() {
        check.promise("24: WHOLE WORDS all whose SIGNS have SOUNDS");
        UnreadScript x = Scripts.withForms(8);
        x.word(1, 0);
        x.word(2, 0);
        Scripts.text(x, "a. .a a.a aa");
        check.due("without gaps alone", x.read(1, 0), 1);
        Scripts.text(x, "bbbbbbccccccddddddeeeeee");
        Scripts.text(x, "ffffff g ga ag a f");
        // g is the seventh.
        check.due("tabled(5)", x.tabled(5), 4);
        check.due("SIGNS without a SOUND", x.read(4, 0), 2);
        Scripts.text(x, "gggg");
        check.due("tabled(2)", x.tabled(2), 6);
        check.due("SIGNS with a SOUND", x.read(4, 0), 5);
    }

    private static void readSignZeroTheLowest() {
        check.promise("24: SOUNDS of its SIGNS as a number to the base 4, SIGN 0 the lowest");
        for (int i = 0; i < 6; i++) {
            UnreadScript x = Scripts.withForms(6);
            Scripts.text(x, "abcdef");
            Scripts.text(x, String.valueOf("abcdef".charAt(i)).concat(" a b c d e f"));
            x.drop();
            x.word(6, 3 << 2 * (5 - i));
            check.due("SIGN " + i, x.read(1, 3 << 2 * i), 1);
            check.due("SIGN " + i + " of another SOUND", x.read(1, 2 << 2 * i), 0);
            check.due("not SIGN " + i, x.read(1, 0), 0);
        }
    }

    // ---- Promise 25

    private static void bestWithoutSuchNumber() {
        check.promise("25: BAD");
        UnreadScript x = Scripts.withForms(1);
        for (int t = 0; t <= 8; t++) {
            for (int what : new int[] {-1, 3, MIN, MAX}) check.due("what " + what, x.best(0, what), BAD);
            for (int texts : new int[] {1 << t, 256, -1, MIN, MAX}) {
                check.due(t + " TEXTS, " + texts, x.best(texts, 1), BAD);
            }
            check.due(t + " TEXTS, all", x.best((1 << t) - 1, 1), 0);
            if (t < 8) Scripts.text(x, "a");
        }
    }

    private static void bestIs(UnreadScript x, int texts, int table, int read, int tables) {
        int[] want = {table, read, tables};
        for (int what = 0; what < 3; what++) {
            check.due("best(" + texts + ", " + what + ")", x.best(texts, what), want[what]);
        }
    }

    private static void bestOfNothing() {
        check.promise("25: THE BEST TABLE of no SIGNS");
        UnreadScript x = new UnreadScript();
        bestIs(x, 0, 0, 0, 1);
        x.word(1, 0);
        Scripts.text(x, ". .");
        bestIs(x, 0, 0, 0, 1);
        bestIs(x, 1, 0, 0, 1);
    }

    private static void bestOfNoTexts() {
        check.promise("25: THE BEST TABLE for no TEXTS, by no WORDS of the tongue");
        for (int signs = 1; signs <= 8; signs++) {
            UnreadScript x = Scripts.withForms(8);
            Scripts.text(x, "abcdefgh".substring(0, signs));
            int tables = 1 << 2 * Math.min(6, signs);
            bestIs(x, 1, 0, 0, tables);
            x.word(1, 1);
            bestIs(x, 0, 0, 0, tables);
        }
    }

    private static void bestOfSeveralTheLeast() {
        check.promise("25: of several that whose SOUNDS, SIGN by SIGN in that order, are the least");
        UnreadScript x = Scripts.withForms(2);
        Scripts.text(x, "ab");
        x.word(2, Scripts.sounds("10"));
        bestIs(x, 1, 1, 1, 1);
        x.word(2, Scripts.sounds("03"));
        // As numbers 1 is below 12; SIGN by SIGN 0 3 is below 1 0.
        bestIs(x, 1, 12, 1, 2);
        x.word(2, Scripts.sounds("02"));
        bestIs(x, 1, 8, 1, 3);
        UnreadScript y = Scripts.withForms(2);
        Scripts.text(y, "bb a");
        y.word(1, 2);
        y.word(2, Scripts.sounds("33"));
        // SIGN 0 is b: it stands twice.
        bestIs(y, 1, 3 + 4 * 2, 2, 1);
    }

    private static void bestAmongAllTables() {
        check.promise("25: THE BEST TABLE: the first and the last of all");
        UnreadScript x = Scripts.withForms(6);
        Scripts.text(x, "abcdef");
        x.word(6, 4095);
        bestIs(x, 1, 4095, 1, 1);
        x.word(6, 0);
        bestIs(x, 1, 0, 1, 2);
        UnreadScript y = Scripts.withForms(1);
        for (int t = 0; t < 8; t++) Scripts.text(y, "a a a a a a a a a a a a ");
        y.word(1, 3);
        bestIs(y, 255, 3, 96, 1);
        bestIs(y, 128, 3, 12, 1);
    }

    private static void bestTablesThatHaveAsMuch() {
        check.promise("25: 2 how many TABLES have as much");
        UnreadScript x = Scripts.withForms(3);
        Scripts.text(x, "a b");
        Scripts.text(x, "ac");
        x.word(1, 1);
        // b and c may have any SOUND where a alone is READ.
        bestIs(x, 0, 0, 0, 64);
        bestIs(x, 1, 1 + 4, 2, 4);
        bestIs(x, 2, 0, 0, 64);
        x.word(1, 2);
        bestIs(x, 1, 1 + 4, 2, 16);
    }

    // ---- Promise 26

    private static void judgeNoSuchTexts() {
        check.promise("26: BAD");
        UnreadScript x = Scripts.withForms(1);
        for (int t = 0; t <= 8; t++) {
            for (int texts : new int[] {1 << t, 256, -1, MIN, MAX}) {
                check.due(t + " TEXTS, " + texts, x.judge(texts, 0, 0), BAD);
                check.due(t + " TEXTS, others " + texts, x.judge(0, texts, 0), BAD);
            }
            check.due(t + " TEXTS, all", x.judge((1 << t) - 1, 0, 0), 0);
            check.due(t + " TEXTS, all others", x.judge(0, (1 << t) - 1, 0), 0);
            if (t < 8) Scripts.text(x, "a");
        }
        check.due("half and half", x.judge(15, 240, 2), 1);
    }

    private static void judgeTextOfBoth() {
        check.promise("26: BAD: also a TEXT of both");
        UnreadScript x = Scripts.withForms(1);
        for (int t = 0; t < 8; t++) Scripts.text(x, "a");
        for (int t = 0; t < 8; t++) {
            check.due("TEXT " + t, x.judge(1 << t, 1 << t, 0), BAD);
            check.due("TEXT " + t + " of all", x.judge(255, 1 << t, 2), BAD);
            check.due("all but TEXT " + t, x.judge(1 << t, 255 - (1 << t), 0), 0);
        }
        check.due("none of both", x.judge(0, 0, 0), 0);
    }

    private static void judgeWithoutSuchNumber() {
        check.promise("26: BAD, no such number");
        UnreadScript x = Scripts.withForms(1);
        Scripts.text(x, "a");
        for (int what : new int[] {-1, 3, MIN, MAX}) check.due("what " + what, x.judge(1, 0, what), BAD);
    }

    private static void judgeIs(UnreadScript x, int texts, int others, int... want) {
        for (int what = 0; what < 3; what++) {
            check.due("judge(" + texts + ", " + others + ", " + what + ")", x.judge(texts, others, what), want[what]);
        }
    }

    private static void judgeOfNothing() {
        check.promise("26: SHUFFLES of a TABLE of no SIGNS, against no TEXTS");
        UnreadScript x = Scripts.withForms(2);
        x.word(1, 0);
        judgeIs(x, 0, 0, 0, 1, 1);
        Scripts.text(x, ". .");
        judgeIs(x, 1, 0, 0, 1, 1);
        judgeIs(x, 0, 1, 0, 1, 1);
        Scripts.text(x, "a b");
        judgeIs(x, 2, 0, 0, 2, 2);
        // THE BEST TABLE for no TEXTS is all 0.
        judgeIs(x, 0, 2, 2, 2, 2);
    }

    private static void judgeHowManyShuffles() {
        check.promise("26: as many as there are ways to order so many");
        int[] ways = {1, 1, 2, 6, 24, 120, 720, 720, 720};
        for (int signs = 0; signs <= 8; signs++) {
            UnreadScript x = Scripts.withForms(8);
            if (signs > 0) Scripts.text(x, "abcdefgh".substring(0, signs));
            judgeIs(x, 0, 0, 0, ways[signs], ways[signs]);
        }
    }

    private static void judgeAtLeastAsMany() {
        check.promise("26: SHUFFLES of it that READ at least as many of the others");
        UnreadScript x = Scripts.withForms(2);
        Scripts.text(x, "ab ab");
        Scripts.text(x, "a b ba ba");
        x.word(2, Scripts.sounds("01"));
        // a 0, b 1 READ none of the others; the other way both.
        judgeIs(x, 1, 2, 0, 2, 2);
        x.word(1, 0);
        judgeIs(x, 1, 2, 1, 2, 2);
        UnreadScript y = Scripts.withForms(3);
        Scripts.text(y, "abc");
        Scripts.text(y, "a ab");
        y.word(3, Scripts.sounds("012"));
        y.word(1, 0);
        y.word(2, Scripts.sounds("01"));
        y.word(2, Scripts.sounds("02"));
        // a 0, b 1, c 2 READ both; of the others a 0, b 2, c 1 alone do.
        judgeIs(y, 1, 2, 2, 2, 6);
    }

    private static void judgeSoundsThatAreAlike() {
        check.promise("26: each of its SOUNDS is its own, though two be alike");
        UnreadScript x = Scripts.withForms(6);
        Scripts.text(x, "abcdef");
        Scripts.text(x, "ab");
        x.word(6, 0);
        x.word(2, 0);
        judgeIs(x, 1, 2, 1, 720, 720);
        UnreadScript y = Scripts.withForms(6);
        Scripts.text(y, "abcdef");
        Scripts.text(y, "ab");
        y.word(6, 1);
        y.word(2, 0);
        // f alone has a 1: 120 SHUFFLES give it to each of the six.
        judgeIs(y, 1, 2, 1, 4 * 120, 720);
    }
}
