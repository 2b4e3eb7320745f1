/** Promises 1 to 5: a test for each sentence that names a boundary. */
public final class FormBoundsTest {
    private static final int BAD = -1, FULL = -3, NONE = -4;
    private static final int MIN = Integer.MIN_VALUE, MAX = Integer.MAX_VALUE;
    private static final Check check = new Check();

    public static void main(String[] args) {
        newObjectHasNothing();
        likenessOneAtFirst();
        objectsAreApart();
        featuresAreZeroTo4095();
        eachOfTwelveFeaturesCounts();
        formsAreNumberedAsTheyCome();
        formsAreTwentyFour();
        badAheadOfFull();
        likenessIsZeroToTwelve();
        likeIfNoMoreFeatures();
        likenessRegroupsWhatIsThere();
        rowOfForms();
        rowOfAllForms();
        rowThatIsBroken();
        signIsItsLeastForm();
        signOfNoForm();
        signsOfNoForms();
        signsOfOneForm();
        signsWithoutSuchNumber();
        greatestOfSeveralIsTheLeast();
        leastLikenessAtBothEnds();
        leastLikenessAsksNotChanges();
        check.finish();
    }

    private static UnreadScript withFeatures(int... features) {
        UnreadScript x = new UnreadScript();
        for (int f : features) x.form(f);
        return x;
    }

    // ---- Promise 1

    private static void newObjectHasNothing() {
        check.promise("1: Nothing; THE DAY 0; SHEETS of nothing");
        UnreadScript x = new UnreadScript();
        for (int what = 0; what <= 9; what++) check.due("count(" + what + ")", x.count(what), 0);
        check.due("count(10)", x.count(10), NONE);
        for (int k = 0; k < 4; k++) {
            check.due("lay", x.lay(k, 0, 0), -11);
            for (int lane = 0; lane < 3; lane++) check.due("text", x.text(k, lane, 0, 1), -11);
        }
        check.due("fault()", x.fault(), 0);
        check.due("drop()", x.drop(), NONE);
        check.due("claims()", x.claims(), 0);
        check.due("day(0)", x.day(0), 0);
    }

    private static void likenessOneAtFirst() {
        check.promise("1: LIKENESS 1");
        UnreadScript x = withFeatures(0, 1, 6);
        check.due("unlike in 1", x.sign(1), 0);
        check.due("unlike in 2", x.sign(2), 2);
        check.due("likeness(1)", x.likeness(1), 1);
    }

    private static void objectsAreApart() {
        check.promise("1: Nothing, whatever another object has");
        UnreadScript x = Scripts.full();
        UnreadScript y = new UnreadScript();
        for (int what = 0; what <= 9; what++) check.due("count(" + what + ")", y.count(what), 0);
        check.due("count(10)", y.count(10), NONE);
        check.due("count(0) of the other", x.count(0), 24);
    }

    // ---- Promise 2

    private static void featuresAreZeroTo4095() {
        check.promise("2: BAD: not 0 to 4095");
        UnreadScript x = new UnreadScript();
        int[] refused = {-1, 4096, 4097, 8191, MIN, MAX, MIN + 1, MAX - 1, -4096, 1 << 16};
        for (int features : refused) check.due("form(" + features + ")", x.form(features), BAD);
        check.due("count(0)", x.count(0), 0);
        check.due("form(0)", x.form(0), 0);
        check.due("form(4095)", x.form(4095), 1);
    }

    private static void eachOfTwelveFeaturesCounts() {
        check.promise("2: 12 features (bits)");
        UnreadScript x = new UnreadScript();
        x.likeness(0);
        x.form(0);
        for (int bit = 0; bit < 12; bit++) check.due("form", x.form(1 << bit), bit + 1);
        for (int f = 0; f <= 12; f++) check.due("sign(" + f + ")", x.sign(f), f);
        check.due("a thirteenth", x.form(1 << 12), BAD);
        x.likeness(1);
        for (int f = 0; f <= 12; f++) check.due("sign(" + f + ")", x.sign(f), 0);
    }

    private static void formsAreNumberedAsTheyCome() {
        check.promise("2: A FORM: its number, as they come");
        UnreadScript x = new UnreadScript();
        check.due("the first", x.form(9), 0);
        x.form(-1);
        check.due("behind one that is refused", x.form(9), 1);
        check.due("the same features", x.form(9), 2);
    }

    private static void formsAreTwentyFour() {
        check.promise("2: FORMS (24); FULL");
        UnreadScript x = new UnreadScript();
        for (int f = 0; f < 24; f++) check.due("form", x.form(0), f);
        check.due("the 25th", x.form(0), FULL);
        check.due("the 25th of other features", x.form(4095), FULL);
        check.due("count(0)", x.count(0), 24);
        check.due("sign(23)", x.sign(23), 0);
        check.due("sign(24)", x.sign(24), BAD);
    }

    private static void badAheadOfFull() {
        check.promise("2: BAD ahead of FULL");
        UnreadScript x = new UnreadScript();
        for (int f = 0; f < 24; f++) x.form(f);
        for (int features : new int[] {-1, 4096, MIN, MAX}) check.due("form", x.form(features), BAD);
    }

    // ---- Promise 3

    private static void likenessIsZeroToTwelve() {
        check.promise("3: LIKENESS (0 to 12); BAD");
        UnreadScript x = new UnreadScript();
        int was = 1;
        for (int v : new int[] {0, 12, 1, 11, 12, 0, 0}) {
            check.due("likeness(" + v + ")", x.likeness(v), was);
            was = v;
        }
        for (int v : new int[] {-1, 13, MIN, MAX}) check.due("likeness(" + v + ")", x.likeness(v), BAD);
        check.due("what is refused changes nothing", x.likeness(0), 0);
    }

    private static void likeIfNoMoreFeatures() {
        check.promise("3: LIKE, if no more features than that are unlike");
        for (int unlike = 0; unlike <= 12; unlike++) {
            UnreadScript x = withFeatures(0, (1 << unlike) - 1);
            UnreadScript y = withFeatures(4095, 4095 >> unlike);
            for (int v = 0; v <= 12; v++) {
                x.likeness(v);
                y.likeness(v);
                int want = unlike <= v ? 0 : 1;
                check.due(unlike + " unlike, LIKENESS " + v, x.sign(1), want);
                check.due(unlike + " unlike of the highest, LIKENESS " + v, y.sign(1), want);
            }
        }
    }

    private static void likenessRegroupsWhatIsThere() {
        check.promise("Terms: All that is told of TEXTS goes by SIGNS, as FORMS are grouped now");
        UnreadScript x = withFeatures(0, 3);
        Scripts.text(x, "ab");
        check.due("counted(0)", x.counted(0), 1);
        x.likeness(2);
        check.due("counted(0) of one SIGN", x.counted(0), 2);
        check.due("counted(1) of one SIGN", x.counted(1), BAD);
        check.due("textOf(0, 11)", x.textOf(0, 11), 0);
        x.likeness(1);
        check.due("counted(1) parted again", x.counted(1), 1);
        x.form(1);
        check.due("counted(0) joined by a FORM between", x.counted(0), 2);
    }

    // ---- Promise 4

    private static void rowOfForms() {
        check.promise("4: of one SIGN, if a row of FORMS goes from one to the other one");
        UnreadScript x = withFeatures(0b111, 0b000, 0b011);
        check.due("sign(1) without the row", x.sign(1), 1);
        x.form(0b001);
        for (int f = 0; f < 4; f++) check.due("sign(" + f + ")", x.sign(f), 0);
    }

    // FORMS of which each is LIKE the next, and the last one LIKE the first.
    private static int inRing(int i) {
        return i <= 12 ? (1 << i) - 1 : 4095 << i - 12 & 4095;
    }

    private static void rowOfAllForms() {
        check.promise("4: a row of all 24 FORMS, in any order");
        UnreadScript x = new UnreadScript();
        for (int i = 0; i < 24; i += 2) x.form(inRing(i));
        check.due("each alone", x.signs(0), 12);
        for (int i = 23; i > 0; i -= 2) x.form(inRing(i));
        for (int f = 0; f < 24; f++) check.due("sign(" + f + ")", x.sign(f), 0);
        check.due("signs(0)", x.signs(0), 1);
        check.due("signs(1)", x.signs(1), 24);
        check.due("signs(2)", x.signs(2), 0);
        check.due("signs(3)", x.signs(3), 1);
        x.likeness(0);
        check.due("signs(0) by 0", x.signs(0), 24);
        check.due("signs(1) by 0", x.signs(1), 1);
    }

    private static void rowThatIsBroken() {
        check.promise("4: no row, no one SIGN");
        UnreadScript x = new UnreadScript();
        for (int i = 0; i < 24; i++) {
            if (i != 5 && i != 17) x.form(inRing(i));
        }
        check.due("signs(0)", x.signs(0), 2);
        check.due("signs(1)", x.signs(1), 11);
        check.due("signs(2) of several", x.signs(2), 0);
        check.due("signs(3)", x.signs(3), 2);
        x.form(inRing(17));
        check.due("signs(0)", x.signs(0), 1);
    }

    private static void signIsItsLeastForm() {
        check.promise("4: A SIGN is told by its least FORM");
        UnreadScript x = withFeatures(0b1111, 0b0000, 0b1110, 0b0001);
        int[] want = {0, 1, 0, 1};
        for (int f = 0; f < 4; f++) check.due("sign(" + f + ")", x.sign(f), want[f]);
        check.due("counted of the least", x.counted(1), 0);
        check.due("counted of another", x.counted(2), BAD);
    }

    private static void signOfNoForm() {
        check.promise("4: BAD");
        UnreadScript x = new UnreadScript();
        for (int f : new int[] {0, -1, MIN, MAX}) check.due("sign of no FORMS", x.sign(f), BAD);
        x.form(0);
        check.due("sign(0)", x.sign(0), 0);
        for (int f : new int[] {1, -1, 23, 24, MIN, MAX}) check.due("sign(" + f + ")", x.sign(f), BAD);
    }

    // ---- Promise 5

    private static void signsOfNoForms() {
        check.promise("5: no FORMS: 2 NONE, 3 0");
        UnreadScript x = new UnreadScript();
        int[] want = {0, 0, NONE, 0};
        for (int what = 0; what < 4; what++) check.due("signs(" + what + ")", x.signs(what), want[what]);
    }

    private static void signsOfOneForm() {
        check.promise("5: one FORM");
        UnreadScript x = withFeatures(4095);
        int[] want = {1, 1, 0, 0};
        for (int what = 0; what < 4; what++) check.due("signs(" + what + ")", x.signs(what), want[what]);
    }

    private static void signsWithoutSuchNumber() {
        check.promise("5: BAD");
        for (UnreadScript x : new UnreadScript[] {new UnreadScript(), withFeatures(0, 7)}) {
            for (int what : new int[] {-1, 4, MIN, MAX}) check.due("signs(" + what + ")", x.signs(what), BAD);
        }
    }

    private static void greatestOfSeveralIsTheLeast() {
        check.promise("5: of several the least");
        UnreadScript x = withFeatures(0, 0b111, 0b111000, 0b111);
        check.due("the greatest", x.signs(2), 1);
        x.form(0b111000);
        check.due("of two the least", x.signs(2), 1);
        check.due("FORMS in it", x.signs(1), 2);
        x.form(0b111000);
        check.due("one more", x.signs(2), 2);
        check.due("FORMS in it", x.signs(1), 3);
    }

    private static void leastLikenessAtBothEnds() {
        check.promise("5: 3 the least LIKENESS with which there is one SIGN alone");
        for (int unlike = 0; unlike <= 12; unlike++) {
            UnreadScript x = withFeatures(0, 4095 >> 12 - unlike);
            check.due(unlike + " unlike", x.signs(3), unlike);
            x.form(0);
            check.due(unlike + " unlike, and one alike", x.signs(3), unlike);
        }
        UnreadScript x = withFeatures(0, 4095, 0b111111);
        check.due("one between", x.signs(3), 6);
        x.form(0b111);
        check.due("one between on one side", x.signs(3), 6);
        x.form(0b111111111);
        check.due("one between on both", x.signs(3), 3);
    }

    private static void leastLikenessAsksNotChanges() {
        check.promise("5: signs asks alone");
        UnreadScript x = withFeatures(0, 4095, 3);
        for (int what = 0; what < 4; what++) x.signs(what);
        for (int f = 0; f < 3; f++) check.due("sign(" + f + ")", x.sign(f), f);
        check.due("likeness(1)", x.likeness(1), 1);
    }
}
