/** "Terms" of the document, sentence by sentence, in its order; what is asked is told by hand. */
public final class TermsTest {
    private static final int BAD = -1, STATE = -2, FULL = -3, NONE = -4, TOLD = -10, CELL_TOLD = -20;
    private static final Check check = new Check();

    public static void main(String[] args) {
        answers();
        theFirstThatFits();
        refusedChangesNothing();

        formsAreNumbered();
        likeFeatures();
        oneSign();
        leastForm();

        textsAreRows();
        wordsBetweenEnds();
        signsAsGroupedNow();
        countOfASign();
        besideOfTwoSigns();
        chanceOfThat();
        beginningsAndEndings();
        scriptRuns();

        stems();
        akinByPairs();
        apartByHand();
        gridOfSomeSigns();
        leastQuarrel();
        leastRows();

        accounts();
        valuesOfMarks();
        namesFit();
        tables();
        wordsRead();
        bestTable();
        shuffles();

        tapePlaces();
        tokens();
        grammar();
        numbersOfClaims();
        faultNoToken();
        faultMisplaced();
        faultNoClaim();
        faultClaimed();
        faultTooMany();
        firstFaultMet();
        claimsAreNumbered();
        withdrawnWithAll();
        theDay();
        knownOnADay();

        sheetsAreRows();
        sheetFaults();
        check.finish();
    }

    /** The answers of one call for what is asked, from the first number on. */
    private interface Call {
        long of(int what);
    }

    private static void all(String told, Call call, int from, long... want) {
        for (int i = 0; i < want.length; i++) check.due(told + " " + (from + i), call.of(from + i), want[i]);
    }

    private static void claims(UnreadScript x, String text, int came, int fault) {
        check.due("claims of '" + text + "'", Scripts.claims(x, text), came);
        check.due("fault of '" + text + "'", x.fault(), fault);
    }

    private static void claims(String text, int came, int fault) {
        claims(new UnreadScript(), text, came, fault);
    }

    // ---- Answers

    private static void answers() {
        check.promise("Terms: BAD -1, STATE -2, FULL -3, NONE -4");
        check.due("BAD", UnreadScript.BAD, BAD);
        check.due("STATE", UnreadScript.STATE, STATE);
        check.due("FULL", UnreadScript.FULL, FULL);
        check.due("NONE", UnreadScript.NONE, NONE);
        UnreadScript x = new UnreadScript();
        check.promise("Terms: BAD (a number is not as told, there is no such FORM, SIGN, TEXT, ACCOUNT, NAME, WORD, CLAIM, SHEET)");
        check.due("no such FORM", x.sign(0), BAD);
        check.due("no such SIGN", x.counted(0), BAD);
        check.due("no such TEXT", x.read(1, 0), BAD);
        check.due("no such NAME", x.dragged(0, 0, 0), BAD);
        check.due("no such CLAIM", x.withdraw(0), BAD);
        check.due("no such SHEET", x.lay(4, 0, 0), BAD);
        check.due("a number that is not as told", x.values(5), BAD);
    }

    private static void theFirstThatFits() {
        check.promise("Terms: the first that fits");
        UnreadScript x = Scripts.full();
        check.due("BAD ahead of FULL: form", x.form(4096), BAD);
        check.due("BAD ahead of FULL: account", x.account(21, 0), BAD);
        check.due("BAD ahead of FULL: name", x.name(1, 4), BAD);
        check.due("BAD ahead of FULL: word", x.word(6, 4095), BAD);
        check.due("BAD ahead of FULL: text", x.text(0, 0, 0, 25), BAD);
        check.due("BAD ahead of STATE: withdraw", x.withdraw(20), BAD);
        check.due("STATE: withdraw", x.withdraw(0), STATE);
        check.due("BAD ahead of NONE: known", new UnreadScript().known(100, 1), BAD);
    }

    private static void refusedChangesNothing() {
        check.promise("Terms: what is refused changes nothing (but THE TAPE, as told)");
        UnreadScript x = Scripts.withForms(2);
        check.due("form", x.form(-1), BAD);
        check.due("count(0)", x.count(0), 2);
        check.due("likeness", x.likeness(13), BAD);
        check.due("LIKENESS as it was", x.likeness(0), 0);
        check.due("day", x.day(100), BAD);
        check.due("count(8)", x.count(8), 0);
        claims(x, "sign 1; sign", TOLD - 12, 2);
        check.due("no CLAIM came", x.count(6), 0);
        check.due("THE TAPE is empty", x.count(9), 0);
    }

    // ---- 1 FORMS

    private static void formsAreNumbered() {
        check.promise("Terms: FORMS (24) are numbered as they come: 12 features (bits)");
        UnreadScript x = new UnreadScript();
        for (int f = 0; f < 24; f++) check.due("form", x.form(f % 2 == 0 ? 4095 : 0), f);
        check.due("a 25th", x.form(0), FULL);
        check.due("a 13th feature", new UnreadScript().form(4096), BAD);
    }

    private static void likeFeatures() {
        check.promise("Terms: LIKENESS (0 to 12; 1 at first): LIKE, if no more features than that are unlike");
        UnreadScript x = new UnreadScript();
        x.form(0b101010101010);
        x.form(0b101010101001);
        check.due("unlike in 2", x.signs(0), 2);
        check.due("1 at first", x.likeness(2), 1);
        check.due("LIKE", x.signs(0), 1);
        check.due("12", x.likeness(12), 2);
        check.due("13", x.likeness(13), BAD);
        check.due("below 0", x.likeness(-1), BAD);
    }

    private static void oneSign() {
        check.promise("Terms: of one SIGN, if a row of FORMS goes from one to the other one, each LIKE the next");
        UnreadScript x = new UnreadScript();
        x.form(0b0000);
        x.form(0b0111);
        x.form(0b0001);
        check.due("no row yet", x.sign(1), 1);
        x.form(0b0011);
        all("by 2 and 3, sign", x::sign, 0, 0, 0, 0, 0);
        x.form(0b110011);
        check.due("unlike in 2 from the nearest", x.sign(4), 4);
    }

    private static void leastForm() {
        check.promise("Terms: A SIGN is told by its least FORM");
        UnreadScript x = new UnreadScript();
        x.form(4095);
        x.form(3);
        x.form(0);
        x.form(1);
        all("sign", x::sign, 0, 0, 1, 1, 1);
        check.due("counted(1)", x.counted(1), 0);
        check.due("counted(2): a FORM, but no SIGN", x.counted(2), BAD);
    }

    // ---- 1 TEXTS

    private static void textsAreRows() {
        check.promise("Terms: TEXTS (8) are numbered as they come: rows of 1 to 24 CELLS, each a FORM, -1 a gap, -2 a word's end");
        UnreadScript x = Scripts.withForms(2);
        String[] told = {"a", "b. a", "abababababababababababab", " ", ".", "ab", "ba", "a"};
        for (int t = 0; t < 8; t++) check.due("'" + told[t] + "'", Scripts.text(x, told[t]), t);
        check.due("a 9th", Scripts.text(x, "a"), FULL);
        all("CELL", what -> x.textOf(1, what), 10, 1, -1, -2, 0, TOLD);
        check.due("24 CELLS", x.textOf(2, 0), 24);
        check.due("25 CELLS", x.text(3, 2, 0, 25), BAD);
        check.due("0 CELLS", x.text(3, 2, 0, 0), BAD);
        x.drop();
        check.due("no FORM", Scripts.text(x, "ac"), CELL_TOLD - 1);
    }

    private static void wordsBetweenEnds() {
        check.promise("Terms: WORDS: all that stands between two ends (or its beginning, its end), if that is something; without gaps WHOLE");
        UnreadScript x = Scripts.withForms(2);
        Scripts.text(x, "ab  a.b . bab");
        all("textOf(0, ..)", what -> x.textOf(0, what), 0, 13, 7, 2, 4, 2, 3);
        Scripts.text(x, " ab ");
        all("textOf(1, ..)", what -> x.textOf(1, what), 0, 4, 2, 0, 1, 1, 2);
        Scripts.text(x, "  ");
        all("textOf(2, ..)", what -> x.textOf(2, what), 0, 2, 0, 0, 0, 0, 0);
    }

    private static void signsAsGroupedNow() {
        check.promise("Terms: All that is told of TEXTS goes by SIGNS, as FORMS are grouped now");
        UnreadScript x = new UnreadScript();
        x.likeness(0);
        for (int bits : new int[] {0, 1, 3}) x.form(bits);
        Scripts.text(x, "abc");
        all("counted", x::counted, 0, 1, 1, 1);
        x.likeness(1);
        check.due("counted(0)", x.counted(0), 3);
        check.due("beside(0, 0)", x.beside(0, 0), 2);
        check.due("CELL 2", x.textOf(0, 12), 0);
        x.likeness(0);
        all("CELL", what -> x.textOf(0, what), 10, 0, 1, 2);
        check.due("beside(1, 2)", x.beside(1, 2), 1);
    }

    private static UnreadScript fourWords() {
        UnreadScript x = Scripts.withForms(4);
        Scripts.text(x, "ab a.b");
        Scripts.text(x, "ab");
        return x;
    }

    private static void countOfASign() {
        check.promise("Terms: COUNT of a SIGN: how often it is in all TEXTS");
        UnreadScript x = fourWords();
        all("counted", x::counted, 0, 3, 3, 0, 0, BAD);
        x.drop();
        all("without the latest TEXT, counted", x::counted, 0, 2, 2, 0, 0);
    }

    private static void besideOfTwoSigns() {
        check.promise("Terms: BESIDE of two SIGNS (a, b): how often b comes right behind a (no end, no gap between)");
        UnreadScript x = fourWords();
        check.due("a, b", x.beside(0, 1), 2);
        check.due("b, a: an end between", x.beside(1, 0), 0);
        check.due("a, a", x.beside(0, 0), 0);
        Scripts.text(x, "aaab");
        check.due("a, a: each place", x.beside(0, 0), 2);
        check.due("a, b", x.beside(0, 1), 3);
        check.due("no SIGN", x.beside(0, 4), BAD);
    }

    private static void chanceOfThat() {
        check.promise("Terms: CHANCE: J times COUNT of a times COUNT of b by N (N - 1); of a alone (that less 1); 0, where N is below 2");
        UnreadScript x = fourWords();
        // N 6, J 2, COUNT 3 and 3: 18 by 30, 12 by 30.
        all("chance(0, 1, ..)", what -> x.chance(0, 1, what), 0, 3, 5);
        all("chance(1, 0, ..)", what -> x.chance(1, 0, what), 0, 3, 5);
        all("chance(0, 0, ..)", what -> x.chance(0, 0, what), 0, 2, 5);
        all("chance(0, 2, ..): 0", what -> x.chance(0, 2, what), 0, 0, 1);
        all("chance(2, 2, ..): 0", what -> x.chance(2, 2, what), 0, 0, 1, BAD);
        UnreadScript y = Scripts.withForms(1);
        all("N 0", what -> y.chance(0, 0, what), 0, 0, 1);
        Scripts.text(y, "a. ");
        all("N 1", what -> y.chance(0, 0, what), 0, 0, 1);
        Scripts.text(y, "a");
        all("N 2, J 0", what -> y.chance(0, 0, what), 0, 0, 1);
        Scripts.text(y, "aa");
        // N 4, J 1, COUNT 4: 12 by 12.
        all("N 4, J 1", what -> y.chance(0, 0, what), 0, 1, 1);
    }

    private static void beginningsAndEndings() {
        check.promise("Terms: BEGINNING: for each SIGN how many WHOLE WORDS it begins, squared, summed; ENDING: so for the last ones");
        UnreadScript x = fourWords();
        // ab, ab; a.b is not WHOLE.
        all("runs", x::runs, 0, 0, 4, 4, TOLD);
        Scripts.text(x, "cb b");
        // a begins 2, b 1, c 1; b ends 4.
        all("runs", x::runs, 0, 1, 6, 16);
    }

    private static void scriptRuns() {
        check.promise("Terms: FORWARD, if ENDING is above BEGINNING; BACK, if it is below; else not told");
        UnreadScript x = Scripts.withForms(3);
        check.due("no TEXTS", x.runs(0), 0);
        Scripts.text(x, "ab cb");
        check.due("FORWARD", x.runs(0), 1);
        Scripts.text(x, "ba bc");
        check.due("as much", x.runs(0), 0);
        Scripts.text(x, "ba");
        // a begins 1, b 3, c 1: 11; a ends 2, b 2, c 1: 9.
        all("BACK", x::runs, 0, -1, 11, 9);
    }

    // ---- 2 STEMS, GRID

    private static void stems() {
        check.promise("Terms: STEMS: two WHOLE WORDS (of 2 CELLS or more) that are unlike in their last SIGN alone");
        UnreadScript x = Scripts.withForms(4);
        Scripts.text(x, "a b ca.a ca.b cda db");
        check.due("WORDS of 1, WORDS that are not WHOLE, other STEMS", x.akin(0, 1), 0);
        Scripts.text(x, "cda cdb");
        check.due("one STEM", x.akin(0, 1), 1);
        check.due("the same, the other way", x.akin(1, 0), 1);
        check.due("others", x.akin(0, 2), 0);
    }

    private static void akinByPairs() {
        check.promise("Terms: Each such pair of unlike WORDS (as rows of SIGNS; each such row once) makes both last SIGNS AKIN by one more (at first by 0)");
        UnreadScript x = Scripts.withForms(4);
        check.due("at first", x.akin(0, 1), 0);
        Scripts.text(x, "ca cb ca cb cb");
        check.due("each row once", x.akin(0, 1), 1);
        Scripts.text(x, "da db dc");
        check.due("a, b", x.akin(0, 1), 2);
        check.due("b, c", x.akin(1, 2), 1);
        Scripts.text(x, "cda cdb");
        check.due("a longer STEM", x.akin(0, 1), 3);
        check.due("one and the same", x.akin(1, 1), BAD);
    }

    private static void apartByHand() {
        check.promise("Terms: APART of two SIGNS: told by hand (0 to 9)");
        UnreadScript x = Scripts.withForms(2);
        check.due("9", x.apart(0, 1, 9), 0);
        check.due("10", x.apart(0, 1, 10), BAD);
        check.due("0", x.apart(1, 0, 0), 9);
        check.due("below 0", x.apart(0, 1, -1), BAD);
        check.due("what was told", x.apart(0, 1, 3), 0);
        check.due("one row", x.grid(1, 0), 3);
    }

    private static void gridOfSomeSigns() {
        check.promise("Terms: GRID of some SIGNS (at most 8, the first of those that are AKIN to any, or APART from any, by number)");
        UnreadScript x = Scripts.withForms(24);
        Scripts.text(x, "xb xd");
        check.due("AKIN", x.grid(2, 1), 2);
        x.apart(0, 20, 1);
        all("with 0 and 20", what -> x.grid(2, what), 10, 0, 1, 3, 20, BAD);
        for (int f = 10; f < 16; f++) x.apart(f, 23, 1);
        check.due("at most 8", x.grid(2, 1), 8);
        all("the first by number", what -> x.grid(2, what), 10, 0, 1, 3, 10, 11, 12, 13, 14, BAD);
        check.promise("Terms: with R rows (1 to 3)");
        for (int rows = 0; rows < 5; rows++) check.due("rows " + rows, x.grid(rows, 1), rows % 4 == 0 ? BAD : 8);
    }

    private static UnreadScript quarrels() {
        UnreadScript x = Scripts.withForms(5);
        // AKIN of a, b: 2.
        Scripts.text(x, "da db ea eb");
        x.apart(0, 1, 5);
        x.apart(0, 2, 3);
        x.apart(1, 2, 1);
        return x;
    }

    private static void leastQuarrel() {
        check.promise("Terms: QUARREL: the sum of AKIN of all pairs that are not in one row, and of APART of those that are. The least");
        UnreadScript x = quarrels();
        check.due("all in one row: 5 + 3 + 1", x.grid(1, 0), 9);
        check.due("a by itself: 2 + 1", x.grid(2, 0), 3);
        all("rows", what -> x.grid(2, what), 30, 0, 1, 1, BAD);
        check.due("each by itself: 2", x.grid(3, 0), 2);
        all("rows", what -> x.grid(3, what), 30, 0, 1, 2, BAD);
        x.apart(0, 1, 1);
        check.due("a and b together: 1", x.grid(2, 0), 1);
        all("rows", what -> x.grid(2, what), 30, 0, 0, 1, BAD);
    }

    private static void leastRows() {
        check.promise("Terms: of several GRIDS the one whose rows, SIGN by SIGN, are the least numbers");
        UnreadScript x = Scripts.withForms(4);
        x.apart(0, 3, 2);
        x.apart(1, 2, 2);
        // 0 0 1 1, 0 1 0 1, 1 0 1 0, 1 1 0 0 quarrel by nothing.
        check.due("QUARREL", x.grid(2, 0), 0);
        all("rows of 2", what -> x.grid(2, what), 30, 0, 0, 1, 1);
        all("rows of 3", what -> x.grid(3, what), 30, 0, 0, 1, 1);
    }

    // ---- 2 ACCOUNTS

    private static void accounts() {
        check.promise("Terms: ACCOUNTS (8): for MARKS 0 to 3 how many of each stand there (0 to 20 each), and how many of each in its total");
        UnreadScript x = new UnreadScript();
        for (int n = 0; n < 8; n++) {
            check.due("account", x.account(Scripts.marks(20, 0, n, 20), Scripts.marks(0, 20, n, 0)), n);
        }
        check.due("a 9th", x.account(0, 0), FULL);
        check.due("21 of MARK 2", x.account(0, Scripts.marks(0, 0, 21, 0)), BAD);
    }

    private static void valuesOfMarks() {
        check.promise("Terms: VALUES of MARKS: each one of the LIST (1, 2, 4, 5, 6, 10, 12, 60), no two alike");
        UnreadScript x = new UnreadScript();
        all("8 times 7 times 6 times 5, the first", x::values, 0, 1680, 1, 2, 4, 5, BAD);
        all("sure", x::sure, 0, 8, 8, 8, 8, BAD);
        check.promise("Terms: so that each ACCOUNT's sum is its total's. All that fit, in order of rows (MARK 0 first, by the LIST)");
        x.account(Scripts.marks(5, 0, 0, 0), Scripts.marks(0, 1, 0, 0));
        // 1 and 5, 2 and 10, 12 and 60, each with 6 times 5 for the others.
        all("five of MARK 0 are one of MARK 1", x::values, 0, 90, 1, 5, 2, 4);
        all("sure", x::sure, 0, 3, 3, 8, 8);
        x.account(Scripts.marks(1, 1, 0, 0), Scripts.marks(0, 0, 3, 0));
        // 1 and 5 are 6: three times 2; 2 and 10 are 12: three times 4; 12 and 60 are 72: three times 24, not in the LIST.
        all("both ACCOUNTS", x::values, 0, 10, 1, 5, 2, 4);
        all("sure", x::sure, 0, 2, 2, 2, 7);
        x.account(Scripts.marks(0, 0, 0, 0), Scripts.marks(0, 0, 0, 1));
        all("none fits", x::values, 0, 0, NONE, NONE, NONE, NONE, BAD);
        all("sure", x::sure, 0, 0, 0, 0, 0, BAD);
    }

    // ---- 2 NAMES, TABLES

    private static void namesFit() {
        check.promise("Terms: NAMES (4): rows of 1 to 8 SOUNDS (0 to 3)");
        UnreadScript x = Scripts.withForms(3);
        check.due("8 SOUNDS", x.name(8, Scripts.sounds("33333333")), 0);
        check.due("9 SOUNDS", x.name(9, 0), BAD);
        check.due("0 SOUNDS", x.name(0, 0), BAD);
        check.due("2 SOUNDS", x.name(2, Scripts.sounds("01")), 1);
        check.due("3 SOUNDS", x.name(3, Scripts.sounds("010")), 2);
        check.due("1 SOUND", x.name(1, 3), 3);
        check.due("a 5th NAME", x.name(1, 0), FULL);
        check.promise("Terms: A NAME FITS a place of a TEXT: as many SIGNS, without end or gap; alike by alike, unlike by unlike");
        Scripts.text(x, "abab.ba cac");
        all("01: ab, ba, ab, ba, ca, ac", what -> x.dragged(1, 0, what), 0, 6, 0, 9, BAD);
        all("010: aba, bab, cac", what -> x.dragged(2, 0, what), 0, 3, 0, 8);
        all("3: each SIGN", what -> x.dragged(3, 0, what), 0, 9, 0, 10);
        all("33333333", what -> x.dragged(0, 0, what), 0, 0, NONE, NONE);
        Scripts.text(x, "aaaaaaaaa");
        all("33333333", what -> x.dragged(0, 1, what), 0, 2, 0, 1);
        check.due("01 of one SIGN alone", x.dragged(1, 1, 0), 0);
    }

    private static void tables() {
        check.promise("Terms: TABLE: for each of at most 6 SIGNS of those that are in TEXTS (the most frequent ones; of several the least number)");
        UnreadScript x = Scripts.withForms(10);
        check.due("no TEXTS", x.tabled(0), NONE);
        Scripts.text(x, "bcd.eeffff gghi");
        // e and g twice, f four times, b c d h i once.
        all("tabled", x::tabled, 0, 5, 4, 6, 1, 2, 3, BAD);
        check.promise("Terms: a SOUND (0 to 3), others have none");
        check.due("the last TABLE", x.read(1, 4095), 0);
        check.due("a 7th SOUND", x.read(1, 4096), BAD);
        x.word(4, 0);
        check.due("h and i have none", x.read(1, 0), 0);
        x.drop();
        Scripts.text(x, "ba");
        check.due("TABLES of two SIGNS", x.read(1, 15), 0);
        check.due("a 3rd SOUND", x.read(1, 16), BAD);
        check.due("SIGN 2", x.tabled(2), NONE);
    }

    private static void wordsRead() {
        check.promise("Terms: WORDS of the tongue (12): rows of 1 to 6 SOUNDS");
        UnreadScript x = Scripts.withForms(3);
        check.due("7 SOUNDS", x.word(7, 0), BAD);
        check.due("0 SOUNDS", x.word(0, 0), BAD);
        check.due("6 SOUNDS", x.word(6, Scripts.sounds("001122")), 0);
        check.due("2 SOUNDS", x.word(2, Scripts.sounds("01")), 1);
        check.due("1 SOUND", x.word(1, 2), 2);
        check.due("it is there", x.word(1, 2), BAD);
        check.promise("Terms: READ: WHOLE WORDS of some TEXTS (by bits) all whose SIGNS have SOUNDS, and whose row of SOUNDS is a WORD: how many");
        Scripts.text(x, "ab ab c aabbcc");
        Scripts.text(x, "ab a.b c. b");
        // b is SIGN 0, as it is the most frequent one; a is SIGN 1.
        int table = Scripts.sounds("201");
        check.due("TEXT 0: ab, ab, c, aabbcc", x.read(1, table), 4);
        check.due("TEXT 1: ab", x.read(2, table), 1);
        check.due("both", x.read(3, table), 5);
        check.due("none", x.read(0, table), 0);
        check.due("another TABLE: c alone", x.read(1, Scripts.sounds("200")), 1);
        for (int n = 3; n < 12; n++) check.due("word", x.word(4, n), n);
        check.due("a 13th", x.word(4, 0), FULL);
    }

    private static UnreadScript twoTexts() {
        UnreadScript x = Scripts.withForms(3);
        x.word(2, Scripts.sounds("01"));
        Scripts.text(x, "ab ab c.");
        Scripts.text(x, "ab");
        return x;
    }

    private static void bestTable() {
        check.promise("Terms: THE BEST TABLE for some TEXTS: that with the greatest READ; of several whose SOUNDS, SIGN by SIGN, are the least");
        UnreadScript x = twoTexts();
        // a 0, b 1, c any of four.
        all("best(1, ..)", what -> x.best(1, what), 0, Scripts.sounds("010"), 2, 4, BAD);
        all("best(3, ..)", what -> x.best(3, what), 0, Scripts.sounds("010"), 3, 4);
        all("best(0, ..): each TABLE", what -> x.best(0, what), 0, 0, 0, 64);
        x.word(2, Scripts.sounds("10"));
        // a 0, b 1 ahead of a 1, b 0, though its number is the greater one.
        all("best(1, ..)", what -> x.best(1, what), 0, Scripts.sounds("010"), 2, 8);
    }

    private static void shuffles() {
        check.promise("Terms: SHUFFLES: all ways to give the SOUNDS of a TABLE to its SIGNS (each of its SOUNDS is its own, though two be alike)");
        UnreadScript x = twoTexts();
        // SOUNDS 0 1 0: b has the 1 in two of six ways.
        all("judge(1, 2, ..)", what -> x.judge(1, 2, what), 0, 1, 2, 6, BAD);
        all("judge(2, 1, ..)", what -> x.judge(2, 1, what), 0, 2, 2, 6);
        all("judge(1, 0, ..): each way", what -> x.judge(1, 0, what), 0, 0, 6, 6);
        check.due("a TEXT of both", x.judge(1, 3, 0), BAD);
    }

    // ---- 3 THE TAPE

    private static void tapePlaces() {
        check.promise("Terms: THE TAPE has 160 bytes, places from 0");
        UnreadScript x = new UnreadScript();
        Scripts.feed(x, " ".repeat(160));
        check.due("160 bytes", x.count(9), 160);
        check.due("more", x.feed(0), FULL);
        check.due("blanks alone", x.claims(), 0);
        claims("!", TOLD, 1);
        claims(" ".repeat(159).concat("!"), TOLD - 159, 1);
    }

    private static void tokens() {
        check.promise("Terms: TOKENS, each as long as may be, blanks (32) between: NAMES (a .. z), NUMBERS (1 or 2 figures), one ; , .");
        claims("sign1;sound2on0;name3on0,1;", 3, 0);
        claims("  sign   1  ;  sound  2  on  0  ;  ", 2, 0);
        claims("signs1;", TOLD, 1);
        claims("si gn1;", TOLD, 1);
        claims("sign 1 2;", TOLD - 7, 2);
        claims("sign123;", TOLD - 4, 1);
        claims("sign 1;;", TOLD - 7, 2);
        claims("sign\t1;", TOLD - 4, 1);
    }

    private static void grammar() {
        check.promise("Terms: text: { claim } claim: kind NUMBER [ on NUMBER { , NUMBER } ] ; kind: sign, sound, word, name, tongue");
        UnreadScript x = new UnreadScript();
        claims(x, "", 0, 0);
        claims(x, "sign 0;", 1, 0);
        claims(x, "sound 10; word 20 on 0;", 2, 0);
        claims(x, "name 30 on 2,0; tongue 99 on 0, 3, 1;", 2, 0);
        for (int k = 0; k < 5; k++) check.due("kind", x.claim(k, 0), k);
        int[] about = {0, 10, 20, 30, 99};
        int[] on = {0, 0, 1, 2, 3};
        int[] deep = {0, 0, 1, 2, 3};
        for (int k = 0; k < 5; k++) {
            check.due("number of " + k, x.claim(k, 1), about[k]);
            check.due("on how many hangs " + k, x.claim(k, 4), on[k]);
            check.due("how deep hangs " + k, x.claim(k, 6), deep[k]);
        }
    }

    private static void numbersOfClaims() {
        check.promise("Terms: those behind on: CLAIMS on which it hangs: ones that are there (by the text so far, or ahead of it), no one twice");
        UnreadScript x = new UnreadScript();
        claims(x, "sign 1;", 1, 0);
        claims(x, "sign 2 on 0; sign 3 on 1, 0;", 2, 0);
        claims(x, "sign 4 on 3;", TOLD - 10, 3);
        claims(x, "sign 4 on 4; sign 5;", TOLD - 10, 3);
        claims(x, "sign 4 on 0, 0;", TOLD - 13, 3);
        claims(x, "sign 4 on 00, 01, 02;", 1, 0);
        check.due("on three", x.claim(3, 4), 3);
    }

    private static void faultNoToken() {
        check.promise("Terms: 1 no TOKEN, a NAME that is none of these (and on), a NUMBER that is too long (its first byte)");
        claims("sign 1:", TOLD - 6, 1);
        claims("Sign 1;", TOLD, 1);
        claims("sign 1 at 0;", TOLD - 7, 1);
        claims("sign 1 one 0;", TOLD - 7, 1);
        claims("sign 100;", TOLD - 5, 1);
        claims("sign 1; name 2 on 000;", TOLD - 18, 1);
    }

    private static void faultMisplaced() {
        check.promise("Terms: 2 a TOKEN that can not stand there (or the end: the length)");
        claims("7;", TOLD, 2);
        claims("on", TOLD, 2);
        claims("sign;", TOLD - 4, 2);
        claims("sign 1,", TOLD - 6, 2);
        claims("sign 1; word 2 on ;", TOLD - 18, 2);
        claims("sign 1; word 2 on 0 on", TOLD - 20, 2);
        claims("sign", TOLD - 4, 2);
        claims("sign 1   ", TOLD - 9, 2);
        claims("sign 1; word 2 on 0,", TOLD - 20, 2);
    }

    private static void faultNoClaim() {
        check.promise("Terms: 3 a NUMBER of no CLAIM (one that is withdrawn too), one that is twice");
        UnreadScript x = new UnreadScript();
        claims(x, "sign 1; sign 2;", 2, 0);
        claims(x, "word 1 on 2;", TOLD - 10, 3);
        claims(x, "word 1 on 0, 1, 0;", TOLD - 16, 3);
        x.withdraw(0);
        claims(x, "word 1 on 1, 0;", TOLD - 13, 3);
        claims(x, "word 1 on 1;", 1, 0);
    }

    private static void faultClaimed() {
        check.promise("Terms: 4 a kind and number that are claimed already, and not withdrawn (the first NUMBER)");
        UnreadScript x = new UnreadScript();
        claims(x, "sign 1; sound 1;", 2, 0);
        claims(x, "word 1; sound 01 on 0;", TOLD - 14, 4);
        claims(x, "word 1; word 1;", TOLD - 13, 4);
        x.withdraw(1);
        claims(x, "sound 1;", 1, 0);
        claims(x, "sound 1;", TOLD - 6, 4);
    }

    private static void faultTooMany() {
        check.promise("Terms: 5 the 21st CLAIM (its kind). CLAIMS (20)");
        UnreadScript x = new UnreadScript();
        for (int k = 0; k < 20; k++) claims(x, "word " + k + ";", 1, 0);
        claims(x, " sign 1;", TOLD - 1, 5);
        claims(x, "", 0, 0);
        x.withdraw(19);
        claims(x, "sign 1;", TOLD, 5);
        check.due("CLAIMS", x.count(6), 20);
    }

    private static void firstFaultMet() {
        check.promise("Terms: FAULTS, the first met as it is read (a TOKEN is read when the one before has been taken)");
        claims("sign 1; word 2 on 9!", TOLD - 18, 3);
        claims("sign 1; sign 1!", TOLD - 13, 4);
        claims("sign sign!", TOLD - 5, 2);
        claims("sign! 1", TOLD - 4, 1);
        claims("sign 1; on!", TOLD - 8, 2);
        claims("sign 1; no 2 on 9;", TOLD - 8, 1);
    }

    // ---- 3 CLAIMS

    private static void claimsAreNumbered() {
        check.promise("Terms: CLAIMS are numbered as they come; all of a text come, or none");
        UnreadScript x = new UnreadScript();
        claims(x, "sign 5; sign 6;", 2, 0);
        claims(x, "sign 7; sign 8; sign 5;", TOLD - 21, 4);
        check.due("none came", x.count(6), 2);
        check.due("no CLAIM 2", x.claim(2, 1), BAD);
        claims(x, "sign 9;", 1, 0);
        for (int k = 0; k < 3; k++) check.due("about", x.claim(k, 1), new int[] {5, 6, 9}[k]);
    }

    private static UnreadScript hanging() {
        UnreadScript x = new UnreadScript();
        claims(x, "sign 0; sound 1 on 0; word 2 on 1; name 3; tongue 4 on 3, 2;", 5, 0);
        return x;
    }

    private static void withdrawnWithAll() {
        check.promise("Terms: A CLAIM is WITHDRAWN with all that hang on it, and so on");
        UnreadScript x = hanging();
        all("hang on CLAIM 1", what -> x.claim(1, what), 4, 1, 2, 1);
        check.due("1, 2, 4", x.withdraw(1), 3);
        check.due("withdrawn ones", x.count(7), 3);
        int[] gone = {NONE, 0, 0, NONE, 0};
        for (int k = 0; k < 5; k++) check.due("when " + k + " was", x.claim(k, 3), gone[k]);
        check.due("already", x.withdraw(4), STATE);
        check.due("0 alone", x.withdraw(0), 1);
        check.due("none hang on 3", x.claim(3, 5), 0);
    }

    private static void theDay() {
        check.promise("Terms: THE DAY (0 to 99; 0 at first): each has the day when it came, and when it was withdrawn");
        UnreadScript x = hanging();
        check.due("0 at first", x.day(7), 0);
        check.due("not ahead of it", x.day(6), BAD);
        claims(x, "sign 9;", 1, 0);
        check.due("99", x.day(99), 7);
        check.due("100", x.day(100), BAD);
        x.withdraw(5);
        all("CLAIM 0", what -> x.claim(0, what), 2, 0, NONE);
        all("CLAIM 5", what -> x.claim(5, what), 2, 7, 99);
    }

    private static void knownOnADay() {
        check.promise("Terms: KNOWN on a day: it came on that day or ahead, and was not withdrawn on that day or ahead");
        UnreadScript x = new UnreadScript();
        x.day(3);
        claims(x, "sign 1; sign 2 on 0;", 2, 0);
        x.day(5);
        claims(x, "sign 3;", 1, 0);
        x.day(8);
        x.withdraw(0);
        int[] days = {2, 3, 4, 5, 7, 8, 99};
        int[] many = {0, 2, 2, 3, 3, 1, 1};
        int[] first = {NONE, 0, 0, 0, 0, 2, 2};
        int[] latest = {NONE, 1, 1, 2, 2, 2, 2};
        for (int i = 0; i < days.length; i++) {
            int d = days[i];
            all("known(" + d + ", ..)", what -> x.known(d, what), 0, many[i], first[i], latest[i], BAD);
        }
    }

    // ---- 3 SHEETS

    private static void sheetsAreRows() {
        check.promise("Terms: SHEETS 0 to 3 are rows of BYTES (lane 0), SHORTS (1), INTS (2) with 0 to 60 CELLS, or nothing (at first)");
        UnreadScript x = Scripts.withForms(2);
        for (int k = 0; k < 4; k++) check.due("nothing", x.lay(k, 0, 0), TOLD - 1);
        check.due("CELLS of SHEET 0", x.count(10), NONE);
        check.due("60 CELLS", x.sheet(0, 0, 60), 1);
        check.due("61 CELLS", x.sheet(0, 0, 61), BAD);
        check.due("CELLS of SHEET 0", x.count(10), 60);
        check.due("0 CELLS", x.sheet(0, 0, 0), 1);
        check.due("CELLS of SHEET 0", x.count(10), 0);
        for (int lane = 0; lane < 3; lane++) {
            check.due("lane " + lane, x.sheet(lane, lane, 2), 1);
            check.due("lowest bits", x.lay(lane, 1, 257), 1);
            check.due("lowest bits", x.lay(lane, 0, 65537), 1);
        }
        check.due("257 and 65537 as BYTES", x.text(0, 0, 0, 2), 0);
        check.due("257 as a SHORT", x.text(1, 1, 0, 2), CELL_TOLD - 1);
        check.due("65537 as an INT", x.text(2, 2, 0, 2), CELL_TOLD);
        check.due("lane 3", x.sheet(0, 3, 1), BAD);
        check.due("SHEET 4", x.sheet(4, 0, 1), BAD);
    }

    private static void sheetFaults() {
        check.promise("Terms: A FAULT is what the machine finds: 1 NULL (nothing), 2 INDEX, 3 CAST (another lane), 4 SIZE (below 0)");
        UnreadScript x = Scripts.withForms(1);
        check.due("NULL", x.text(2, 0, 0, 1), TOLD - 1);
        check.due("SIZE", x.sheet(2, 1, -1), TOLD - 4);
        check.due("nothing still", x.text(2, 1, 0, 1), TOLD - 1);
        check.due("a SHEET", x.sheet(2, 1, 3), 1);
        check.due("CAST", x.text(2, 0, 0, 3), TOLD - 3);
        check.due("INDEX: behind", x.text(2, 1, 0, 4), TOLD - 2);
        check.due("INDEX: ahead", x.text(2, 1, -1, 1), TOLD - 2);
        check.due("INDEX: lay", x.lay(2, 3, 0), TOLD - 2);
        check.due("no FAULT", x.text(2, 1, 0, 3), 0);
    }
}
