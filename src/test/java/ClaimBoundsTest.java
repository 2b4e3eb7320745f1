/** Promises 27 to 34: a test for each sentence that names a boundary. */
public final class ClaimBoundsTest {
    private static final int BAD = -1, STATE = -2, FULL = -3, NONE = -4, TOLD = -10;
    private static final int NO_TOKEN = 1, MISPLACED = 2, NO_CLAIM = 3, CLAIMED = 4, TOO_MANY = 5;
    private static final int MIN = Integer.MIN_VALUE, MAX = Integer.MAX_VALUE;
    private static final long BLANKS = 0x2020202020202020L;
    private static final Check check = new Check();

    public static void main(String[] args) {
        tapeOf160Bytes();
        feedNoMoreThan160();
        feedHighestFirst();
        feedAnyLong();
        endKeepsItsFirst();
        endIsWhatThereIs();
        endCutsATokenShort();
        claimsOfAnEmptyTape();
        claimsEmptyTheTape();
        claimsAllOrNone();
        claimsAreNumbered();
        bytesAlone();
        bytesBehindAName();
        bytesBehindANumber();
        tokensAsLongAsMayBe();
        numbersOfOneOrTwoFigures();
        kindsAreFive();
        faultAtFirstAndLastPlace();
        faultAtTheEnd();
        faultZero();
        faultOfTheLatest();
        misplacedWhereAKindIsDue();
        misplacedWhereANumberIsDue();
        misplacedBehindTheNumber();
        misplacedBehindOn();
        misplacedBehindWhatItHangsOn();
        noTokenAheadOfMisplaced();
        hangsOnClaimsThatAreThere();
        hangsOnNoneWithdrawn();
        hangsOnNoneTwice();
        hangsOnAllThatAreThere();
        claimedAlready();
        claimedAndWithdrawn();
        claimedByTheTextSoFar();
        claimsAreTwenty();
        claimsAreTwentyOverTexts();
        withdrawnOnesCountAmongTwenty();
        tooManyAheadOfClaimed();
        theFirstFaultMet();
        claimNoClaim();
        claimWithoutSuchNumber();
        claimAboutZeroTo99();
        claimDays();
        claimHowManyItHangsOn();
        claimHowManyHangOnIt();
        claimHowDeep();
        withdrawNoClaim();
        withdrawOnce();
        withdrawOneToTwenty();
        withdrawLeavesThoseAhead();
        withdrawnOnesKeepTheirDay();
        dayIsZeroTo99();
        dayNotAheadOfItself();
        knownOnZeroTo99();
        knownWithoutSuchNumber();
        knownNone();
        knownOnThatDayOrAhead();
        knownNotWithdrawnOnThatDay();
        knownTheFirstAndTheLatest();
        check.finish();
    }

    /** Tells CLAIMS, looks at what came and at the FAULT. */
    private static void told(UnreadScript x, String text, int came) {
        check.due("'" + text + "'", Scripts.claims(x, text), came);
        check.due("fault of '" + text + "'", x.fault(), 0);
    }

    private static void refused(UnreadScript x, String text, int place, int fault) {
        check.due("'" + text + "'", Scripts.claims(x, text), TOLD - place);
        check.due("fault of '" + text + "'", x.fault(), fault);
    }

    private static void refused(String text, int place, int fault) {
        refused(new UnreadScript(), text, place, fault);
    }

    private static UnreadScript withClaims(int n) {
        UnreadScript x = new UnreadScript();
        for (int k = 0; k < n; k++) Scripts.claims(x, "sign " + k + ";");
        return x;
    }

    // ---- Promise 27

    private static void tapeOf160Bytes() {
        check.promise("27: THE TAPE has 160 bytes");
        UnreadScript x = new UnreadScript();
        for (int n = 1; n <= 20; n++) {
            check.due("feed", x.feed(BLANKS), 8 * n);
            check.due("count(9)", x.count(9), 8 * n);
        }
        check.due("a 21st", x.feed(BLANKS), FULL);
        check.due("count(9)", x.count(9), 160);
    }

    private static void feedNoMoreThan160() {
        check.promise("27: FULL: more than 160");
        for (int kept = 160; kept >= 150; kept--) {
            UnreadScript x = new UnreadScript();
            for (int n = 0; n < 20; n++) x.feed(BLANKS);
            x.end(kept);
            check.due("feed at " + kept, x.feed(BLANKS), kept > 152 ? FULL : kept + 8);
            check.due("count(9)", x.count(9), kept > 152 ? kept : kept + 8);
        }
    }

    private static void feedHighestFirst() {
        check.promise("27: Eight bytes, the highest first");
        for (int place = 0; place < 8; place++) {
            UnreadScript x = new UnreadScript();
            x.feed(BLANKS ^ (long) (' ' ^ '{') << 8 * (7 - place));
            check.due("a byte at " + place, x.claims(), TOLD - place);
            x.feed(BLANKS);
            x.feed(BLANKS ^ (long) (' ' ^ '{') << 8 * (7 - place));
            check.due("a byte at " + (8 + place), x.claims(), TOLD - 8 - place);
        }
    }

    private static void feedAnyLong() {
        check.promise("27: numbers at the ends of long");
        long[] ends = {0, -1, Long.MIN_VALUE, Long.MAX_VALUE, Integer.MIN_VALUE, Integer.MAX_VALUE, 0xffL << 56};
        for (long v : ends) {
            UnreadScript x = new UnreadScript();
            check.due("feed(" + v + ")", x.feed(v), 8);
            check.due("claims()", x.claims(), TOLD);
            check.due("fault()", x.fault(), NO_TOKEN);
        }
        UnreadScript x = new UnreadScript();
        x.feed(0x20202020202020ffL);
        check.due("the lowest byte 255", x.claims(), TOLD - 7);
        x.feed(0x20202020a0202020L);
        check.due("a byte of 160 is no blank", x.claims(), TOLD - 4);
    }

    // ---- Promise 28

    private static void endKeepsItsFirst() {
        check.promise("28: THE TAPE keeps its first n bytes: how many it had");
        UnreadScript x = new UnreadScript();
        for (int n = 0; n < 20; n++) x.feed(BLANKS);
        int had = 160;
        for (int n : new int[] {160, 159, 81, 80, 1, 1, 0, 0}) {
            check.due("end(" + n + ")", x.end(n), had);
            check.due("count(9)", x.count(9), n);
            had = n;
        }
        Scripts.feed(x, "sign 1; x");
        x.end(7);
        check.due("its first", x.claims(), 1);
    }

    private static void endIsWhatThereIs() {
        check.promise("28: BAD");
        UnreadScript x = new UnreadScript();
        for (int n : new int[] {1, 160, -1, MIN, MAX}) check.due("end(" + n + ") of nothing", x.end(n), BAD);
        check.due("end(0) of nothing", x.end(0), 0);
        x.feed(BLANKS);
        for (int n : new int[] {9, 160, 161, -1, MIN, MAX}) check.due("end(" + n + ")", x.end(n), BAD);
        check.due("count(9)", x.count(9), 8);
        for (int n = 1; n < 20; n++) x.feed(BLANKS);
        for (int n : new int[] {161, -1, MIN, MAX}) check.due("end(" + n + ") of all", x.end(n), BAD);
        check.due("count(9)", x.count(9), 160);
    }

    private static void endCutsATokenShort() {
        check.promise("28: what is cut off is no more there");
        String text = "tongue12;";
        int[] places = {0, 0, 0, 0, 0, 0, 6, 7, 8, 0};
        int[] faults = {0, NO_TOKEN, NO_TOKEN, NO_TOKEN, NO_TOKEN, NO_TOKEN, MISPLACED, MISPLACED, MISPLACED, 0};
        for (int n = 0; n <= text.length(); n++) {
            UnreadScript x = new UnreadScript();
            Scripts.feed(x, text);
            x.end(n);
            check.due("cut to " + n, x.claims(), faults[n] == 0 ? n / 9 : TOLD - places[n]);
            check.due("fault cut to " + n, x.fault(), faults[n]);
        }
    }

    // ---- Promise 29

    private static void claimsOfAnEmptyTape() {
        check.promise("29: an empty THE TAPE tells no CLAIMS");
        UnreadScript x = new UnreadScript();
        told(x, "", 0);
        told(x, " ", 0);
        told(x, " ".repeat(160), 0);
        check.due("count(6)", x.count(6), 0);
    }

    private static void claimsEmptyTheTape() {
        check.promise("29: THE TAPE (empty then)");
        UnreadScript x = new UnreadScript();
        told(x, "sign 1;", 1);
        check.due("count(9)", x.count(9), 0);
        refused(x, "sign 2; {".concat(" ".repeat(151)), 8, NO_TOKEN);
        check.due("count(9) behind a FAULT", x.count(9), 0);
        check.due("claims() of what is left", x.claims(), 0);
        check.due("end(1)", x.end(1), BAD);
        check.due("feed", x.feed(BLANKS), 8);
    }

    private static void claimsAllOrNone() {
        check.promise("29: all of a text come, or none");
        UnreadScript x = new UnreadScript();
        refused(x, "sign 1; sign 2; sign 3", 22, MISPLACED);
        check.due("count(6)", x.count(6), 0);
        check.due("claim(0, 0)", x.claim(0, 0), BAD);
        check.due("withdraw(0)", x.withdraw(0), BAD);
        check.due("known(99, 0)", x.known(99, 0), 0);
        told(x, "sign 1; sign 2; sign 3;", 3);
        check.due("count(6)", x.count(6), 3);
        refused(x, "sign 4; sign 5 on 9;", 18, NO_CLAIM);
        check.due("count(6)", x.count(6), 3);
        refused(x, "word 1 on 3;", 10, NO_CLAIM);
    }

    private static void claimsAreNumbered() {
        check.promise("29: CLAIMS are numbered as they come");
        UnreadScript x = new UnreadScript();
        told(x, "sign 7; word 8;", 2);
        refused(x, "name 5; 9", 8, MISPLACED);
        told(x, "name 9;", 1);
        for (int k = 0; k < 3; k++) check.due("claim(" + k + ", 1)", x.claim(k, 1), 7 + k);
        x.withdraw(2);
        told(x, "name 9;", 1);
        check.due("one more behind one that is withdrawn", x.claim(3, 1), 9);
    }

    private static boolean isLetter(int b) {
        return b >= 'a' && b <= 'z';
    }

    private static boolean isFigure(int b) {
        return b >= '0' && b <= '9';
    }

    private static boolean isSign(int b) {
        return b == ';' || b == ',';
    }

    private static void bytesAlone() {
        check.promise("30: NAMES (a .. z), NUMBERS, one ; , and blanks (32): each byte alone");
        for (int b = 0; b < 256; b++) {
            String text = String.valueOf((char) b);
            if (b == ' ') told(new UnreadScript(), text, 0);
            else refused(text, 0, isFigure(b) || isSign(b) ? MISPLACED : NO_TOKEN);
        }
    }

    private static void bytesBehindAName() {
        check.promise("30: each byte behind a NAME");
        for (int b = 0; b < 256; b++) {
            String text = "sign" + (char) b;
            if (isLetter(b)) refused(text, 0, NO_TOKEN);
            else if (isFigure(b) || b == ' ') refused(text, 5, MISPLACED);
            else refused(text, 4, isSign(b) ? MISPLACED : NO_TOKEN);
        }
    }

    private static void bytesBehindANumber() {
        check.promise("30: each byte behind a NUMBER of two figures");
        for (int b = 0; b < 256; b++) {
            String text = "sign99" + (char) b;
            if (b == ';') told(new UnreadScript(), text, 1);
            else if (isFigure(b)) refused(text, 4, NO_TOKEN);
            else if (b == ' ') refused(text, 7, MISPLACED);
            else refused(text, 6, b == ',' ? MISPLACED : NO_TOKEN);
        }
    }

    private static void tokensAsLongAsMayBe() {
        check.promise("30: TOKENS, each as long as may be");
        told(new UnreadScript(), "sign5;sound6on0;word7on0,1;", 3);
        refused("signsign 5;", 0, NO_TOKEN);
        refused("sign 5 onon 0;", 7, NO_TOKEN);
        refused("sign 1 2;", 7, MISPLACED);
        refused("sign 12 3;", 8, MISPLACED);
        refused("sign 123 4;", 5, NO_TOKEN);
        refused("si gn 5;", 0, NO_TOKEN);
        refused("sign5;;", 6, MISPLACED);
        refused("a".repeat(160), 0, NO_TOKEN);
        refused("1".repeat(160), 0, NO_TOKEN);
        refused("sign" + "1".repeat(156), 4, NO_TOKEN);
    }

    private static void numbersOfOneOrTwoFigures() {
        check.promise("30: NUMBERS (1 or 2 figures); a NUMBER that is too long (its first byte)");
        for (String number : new String[] {"0", "9", "00", "09", "10", "99"}) {
            UnreadScript x = new UnreadScript();
            told(x, "sign " + number + ";", 1);
            check.due("claim(0, 1) of " + number, x.claim(0, 1), Integer.parseInt(number));
        }
        for (String number : new String[] {"000", "001", "100", "999", "0000", "4294967296", "18446744073709551621"}) {
            refused("sign " + number + ";", 5, NO_TOKEN);
            refused("sign 1; word 1 on " + number + ";", 18, NO_TOKEN);
            refused("sign 1; word 1 on 0, " + number + ";", 21, NO_TOKEN);
        }
    }

    private static void kindsAreFive() {
        check.promise("30: kind: sign, sound, word, name, tongue; a NAME that is none of these (and on)");
        String[] kinds = {"sign", "sound", "word", "name", "tongue"};
        for (int kind = 0; kind < kinds.length; kind++) {
            UnreadScript x = new UnreadScript();
            told(x, kinds[kind] + "1;", 1);
            check.due("claim(0, 0)", x.claim(0, 0), kind);
            refused(kinds[kind].substring(1) + " 1;", 0, NO_TOKEN);
            refused(kinds[kind].substring(0, kinds[kind].length() - 1) + " 1;", 0, NO_TOKEN);
            refused(kinds[kind] + "s 1;", 0, NO_TOKEN);
            refused("s" + kinds[kind] + " 1;", 0, NO_TOKEN);
        }
        for (String none : new String[] {"o", "n", "onn", "oon", "no", "in", "a", "z", "text"}) {
            refused(none + " 1;", 0, NO_TOKEN);
            refused("sign 1 " + none + " 0;", 7, NO_TOKEN);
        }
        refused("on 1;", 0, MISPLACED);
    }

    private static void faultAtFirstAndLastPlace() {
        check.promise("29: -10 less the place of its FAULT, places from 0");
        refused("{", 0, NO_TOKEN);
        refused(" {", 1, NO_TOKEN);
        refused(" ".repeat(159) + "{", 159, NO_TOKEN);
        refused(" ".repeat(159) + ";", 159, MISPLACED);
        refused(" ".repeat(156) + "sing", 156, NO_TOKEN);
        told(new UnreadScript(), " ".repeat(154) + "sign1;", 1);
        refused(" ".repeat(148) + "sign1;" + "{".repeat(6), 154, NO_TOKEN);
    }

    private static void faultAtTheEnd() {
        check.promise("30: 2 (or the end: the length)");
        refused("sign", 4, MISPLACED);
        refused("sign ", 5, MISPLACED);
        refused("sign 1", 6, MISPLACED);
        refused("sign 1  ", 8, MISPLACED);
        refused("sign 1; word 1 on", 17, MISPLACED);
        refused("sign 1; word 1 on 0", 19, MISPLACED);
        refused("sign 1; word 1 on 0,", 20, MISPLACED);
        refused("sign 1; word 1 on 0, ", 21, MISPLACED);
        refused(" ".repeat(156) + "sign", 160, MISPLACED);
        refused("sign 1" + " ".repeat(154), 160, MISPLACED);
        told(new UnreadScript(), "sign 1;", 1);
        told(new UnreadScript(), "sign 1; ", 1);
    }

    // ---- Promise 30

    private static void faultZero() {
        check.promise("30: The FAULT of the latest claims(); 0");
        UnreadScript x = new UnreadScript();
        check.due("no claims() yet", x.fault(), 0);
        x.feed(0);
        check.due("not read yet", x.fault(), 0);
        check.due("claims()", x.claims(), TOLD);
        check.due("read", x.fault(), NO_TOKEN);
        told(x, "", 0);
    }

    private static void faultOfTheLatest() {
        check.promise("30: of the latest claims()");
        UnreadScript x = withClaims(1);
        refused(x, "sign 0;", 5, CLAIMED);
        x.feed(BLANKS);
        x.end(99);
        x.withdraw(9);
        x.withdraw(0);
        x.day(5);
        x.claim(0, 9);
        check.due("others do not change it", x.fault(), CLAIMED);
        x.end(0);
        check.due("nor does end", x.fault(), CLAIMED);
        refused(x, "; ", 0, MISPLACED);
        told(x, "sign 0;", 1);
        refused(x, "word 1 on 0;", 10, NO_CLAIM);
    }

    private static void misplacedWhereAKindIsDue() {
        check.promise("30: 2 a TOKEN that can not stand there: ahead of a claim");
        for (String token : new String[] {"1", "on", ";", ","}) {
            refused(token, 0, MISPLACED);
            refused("sign 1; " + token, 8, MISPLACED);
        }
    }

    private static void misplacedWhereANumberIsDue() {
        check.promise("30: 2 a TOKEN that can not stand there: behind a kind");
        for (String token : new String[] {"sign", "on", ";", ","}) refused("sign " + token, 5, MISPLACED);
    }

    private static void misplacedBehindTheNumber() {
        check.promise("30: 2 a TOKEN that can not stand there: behind the first NUMBER");
        for (String token : new String[] {"sign", "1", ","}) refused("sign 1 " + token, 7, MISPLACED);
    }

    private static void misplacedBehindOn() {
        check.promise("30: 2 a TOKEN that can not stand there: behind on, behind a comma");
        for (String token : new String[] {"sign", "on", ";", ","}) {
            refused("sign 1; word 1 on " + token, 18, MISPLACED);
            refused("sign 1; word 1 on 0, " + token, 21, MISPLACED);
        }
    }

    private static void misplacedBehindWhatItHangsOn() {
        check.promise("30: 2 a TOKEN that can not stand there: behind a NUMBER behind on");
        for (String token : new String[] {"sign", "1", "on"}) refused("sign 1; word 1 on 0 " + token, 20, MISPLACED);
    }

    private static void noTokenAheadOfMisplaced() {
        check.promise("30: a TOKEN is read when the one before has been taken: 1 ahead of 2, wherever it is");
        for (String start : new String[] {"", "sign ", "sign 1 ", "sign 1; word 1 on ", "sign 1; word 1 on 0 ",
            "sign 1; word 1 on 0, ", "sign 1; "}) {
            for (String strange : new String[] {"{", "signs", "100", "\u0000", "\u00ff"}) {
                refused(start + strange, start.length(), NO_TOKEN);
            }
        }
    }

    private static void hangsOnClaimsThatAreThere() {
        check.promise("30: 3 a NUMBER of no CLAIM");
        for (int n = 0; n <= 3; n++) {
            for (int k : new int[] {n, n + 1, 20, 99}) refused(withClaims(n), "word 1 on " + k + ";", 10, NO_CLAIM);
            if (n > 0) told(withClaims(n), "word 1 on " + (n - 1) + ";", 1);
        }
        check.promise("30: by the text so far, or ahead of it");
        told(withClaims(1), "word 1 on 0; word 2 on 1; word 3 on 0, 2;", 3);
        refused("word 1 on 1; word 2;", 10, NO_CLAIM);
        refused("word 1; word 2 on 1;", 18, NO_CLAIM);
        refused(withClaims(20 - 1), "word 1 on 19;", 10, NO_CLAIM);
    }

    private static void hangsOnNoneWithdrawn() {
        check.promise("30: 3 (one that is withdrawn too)");
        UnreadScript x = withClaims(3);
        x.withdraw(1);
        refused(x, "word 1 on 1;", 10, NO_CLAIM);
        refused(x, "word 1 on 0, 2, 1;", 16, NO_CLAIM);
        told(x, "word 1 on 0, 2;", 1);
        x.withdraw(0);
        refused(x, "word 2 on 3;", 10, NO_CLAIM);
    }

    private static void hangsOnNoneTwice() {
        check.promise("30: 3 one that is twice");
        refused(withClaims(2), "word 1 on 0, 0;", 13, NO_CLAIM);
        refused(withClaims(2), "word 1 on 0, 1, 00;", 16, NO_CLAIM);
        refused(withClaims(2), "word 1 on 1, 01;", 13, NO_CLAIM);
        told(withClaims(2), "word 1 on 1, 0; word 2 on 1, 0;", 2);
        // What a text with a FAULT told is not held against the next one.
        UnreadScript x = withClaims(2);
        refused(x, "word 1 on 0, 7;", 13, NO_CLAIM);
        told(x, "word 1 on 0, 1;", 1);
        refused(x, "word 2 on 2; word 3 on 3; word 4 on 4; ;", 39, MISPLACED);
        told(x, "word 2; word 3; word 4;", 3);
        for (int k = 3; k < 6; k++) {
            check.due("claim(" + k + ", 4)", x.claim(k, 4), 0);
            check.due("claim(" + k + ", 6)", x.claim(k, 6), 0);
        }
    }

    private static String allUpTo(int k) {
        StringBuilder told = new StringBuilder("0");
        for (int n = 1; n <= k; n++) told.append(",").append(n);
        return told.toString();
    }

    private static void hangsOnAllThatAreThere() {
        check.promise("31: 4 on how many it hangs: 19 at the most");
        UnreadScript x = withClaims(19);
        told(x, "tongue 99 on " + allUpTo(18) + ";", 1);
        check.due("claim(19, 4)", x.claim(19, 4), 19);
        check.due("claim(19, 6)", x.claim(19, 6), 1);
        for (int k = 0; k < 19; k++) check.due("claim(" + k + ", 5)", x.claim(k, 5), 1);
        check.due("withdraw(18)", x.withdraw(18), 2);
        check.due("withdraw(0)", x.withdraw(0), 1);
    }

    private static void claimedAlready() {
        check.promise("30: 4 a kind and number that are claimed already (the first NUMBER)");
        UnreadScript x = new UnreadScript();
        told(x, "sign 0; sign 99; word 5;", 3);
        refused(x, "sign 0;", 5, CLAIMED);
        refused(x, "sign 00;", 5, CLAIMED);
        refused(x, "sign 99 on 0;", 5, CLAIMED);
        refused(x, "word 05", 5, CLAIMED);
        refused(x, "  word  5;", 8, CLAIMED);
        told(x, "word 0; sign 5; word 99; tongue 0;", 4);
    }

    private static void claimedAndWithdrawn() {
        check.promise("30: 4 and not withdrawn");
        UnreadScript x = withClaims(2);
        x.withdraw(0);
        told(x, "sign 0;", 1);
        refused(x, "sign 0;", 5, CLAIMED);
        x.withdraw(2);
        told(x, "sign 0;", 1);
        refused(x, "sign 1;", 5, CLAIMED);
    }

    private static void claimedByTheTextSoFar() {
        check.promise("30: 4 claimed by the text so far");
        refused("sign 1; sign 1;", 13, CLAIMED);
        refused("sign 1; sign 2; sign 01;", 21, CLAIMED);
        UnreadScript x = new UnreadScript();
        refused(x, "sign 1; sign 1;", 13, CLAIMED);
        told(x, "sign 1;", 1);
    }

    private static String tenOf(String kind) {
        StringBuilder told = new StringBuilder();
        for (int n = 0; n < 10; n++) told.append(kind).append(n).append(";");
        return told.toString();
    }

    private static void claimsAreTwenty() {
        check.promise("30: CLAIMS (20); 5 the 21st CLAIM (its kind)");
        String twenty = tenOf("sign") + tenOf("word");
        UnreadScript x = new UnreadScript();
        refused(x, twenty + "name0;", 120, TOO_MANY);
        refused(x, twenty + " name", 121, TOO_MANY);
        check.due("none came", x.count(6), 0);
        refused(x, twenty + "0", 120, MISPLACED);
        refused(x, twenty + "on", 120, MISPLACED);
        refused(x, twenty + "names", 120, NO_TOKEN);
        told(x, twenty, 20);
        check.due("count(6)", x.count(6), 20);
        check.due("claim(19, 1)", x.claim(19, 1), 9);
        refused(x, "name0;", 0, TOO_MANY);
        told(x, " ", 0);
    }

    private static void claimsAreTwentyOverTexts() {
        check.promise("30: the 21st CLAIM, over several texts");
        UnreadScript x = withClaims(18);
        refused(x, "word1;word2;word3;", 12, TOO_MANY);
        check.due("count(6)", x.count(6), 18);
        told(x, "word1;", 1);
        refused(x, "word2;word3;", 6, TOO_MANY);
        told(x, "word2;", 1);
        refused(x, "  word3;", 2, TOO_MANY);
        check.due("count(6)", x.count(6), 20);
    }

    private static void withdrawnOnesCountAmongTwenty() {
        check.promise("30: CLAIMS that are withdrawn are CLAIMS still");
        UnreadScript x = withClaims(20);
        for (int k = 0; k < 20; k++) check.due("withdraw(" + k + ")", x.withdraw(k), 1);
        refused(x, "sign 1;", 0, TOO_MANY);
        check.due("count(6)", x.count(6), 20);
        check.due("count(7)", x.count(7), 20);
    }

    private static void tooManyAheadOfClaimed() {
        check.promise("30: 5 (its kind) ahead of what stands behind it");
        UnreadScript x = withClaims(20);
        for (String rest : new String[] {" 0;", " ;", " {", " 100;", "", " 77 on 99;"}) {
            refused(x, "sign" + rest, 0, TOO_MANY);
        }
    }

    private static void theFirstFaultMet() {
        check.promise("30: FAULTS, the first met as it is read");
        refused("; {", 0, MISPLACED);
        refused("{ ;", 0, NO_TOKEN);
        refused("sign 1; sign 1 {", 13, CLAIMED);
        refused("sign 1; sign 1 on 9;", 13, CLAIMED);
        refused("sign 1; sign 1 on 1;", 13, CLAIMED);
        refused("sign 1; word 1 on 1 {", 18, NO_CLAIM);
        refused("sign 1; word 1 on 1 ;;", 18, NO_CLAIM);
        refused("sign 1; word 1 on 5, 0, 0; sign 1;", 18, NO_CLAIM);
        refused("sign 1; word 1 on 0 0; sign 1;", 20, MISPLACED);
    }

    // ---- Promise 31

    private static void claimNoClaim() {
        check.promise("31: BAD, no such CLAIM");
        for (int n : new int[] {0, 1, 19, 20}) {
            UnreadScript x = withClaims(n);
            for (int k : new int[] {n, n + 1, 20, 31, 32, -1, MIN, MAX}) {
                check.due(n + " CLAIMS, claim(" + k + ", 0)", x.claim(k, 0), BAD);
            }
            if (n > 0) check.due("the last", x.claim(n - 1, 1), n - 1);
        }
    }

    private static void claimWithoutSuchNumber() {
        check.promise("31: BAD, no such number");
        UnreadScript x = withClaims(1);
        for (int what : new int[] {-1, 7, 8, MIN, MAX}) check.due("claim(0, " + what + ")", x.claim(0, what), BAD);
        int[] want = {0, 0, 0, NONE, 0, 0, 0};
        for (int what = 0; what < 7; what++) check.due("claim(0, " + what + ")", x.claim(0, what), want[what]);
    }

    private static void claimAboutZeroTo99() {
        check.promise("31: The first NUMBER (0 to 99) is what it is about");
        UnreadScript x = new UnreadScript();
        told(x, "sign 0; sign 99; sign 9; sign 10;", 4);
        int[] want = {0, 99, 9, 10};
        for (int k = 0; k < 4; k++) check.due("claim(" + k + ", 1)", x.claim(k, 1), want[k]);
    }

    private static void claimDays() {
        check.promise("31: 2 the day when it came, 3 when it was withdrawn (NONE)");
        UnreadScript x = new UnreadScript();
        told(x, "sign 1; sign 2;", 2);
        x.day(99);
        told(x, "sign 3;", 1);
        check.due("day 0", x.claim(0, 2), 0);
        check.due("day 99", x.claim(2, 2), 99);
        told(x, "sign 4; sign 5; sign 6;", 3);
        for (int k = 3; k < 6; k++) check.due("day 99, claim(" + k + ", 2)", x.claim(k, 2), 99);
        check.due("not withdrawn", x.claim(0, 3), NONE);
        x.withdraw(0);
        check.due("withdrawn", x.claim(0, 3), 99);
        check.due("not withdrawn", x.claim(1, 3), NONE);
        UnreadScript y = withClaims(1);
        y.withdraw(0);
        check.due("withdrawn on day 0", y.claim(0, 3), 0);
    }

    private static void claimHowManyItHangsOn() {
        check.promise("31: 4 on how many it hangs: none, one, more; those it is told to");
        UnreadScript x = new UnreadScript();
        told(x, "sign 1; sign 2 on 0; sign 3 on 1; sign 4 on 0, 1, 2;", 4);
        int[] want = {0, 1, 1, 3};
        for (int k = 0; k < 4; k++) check.due("claim(" + k + ", 4)", x.claim(k, 4), want[k]);
        x.withdraw(2);
        for (int k = 0; k < 4; k++) check.due("withdrawn or not, claim(" + k + ", 4)", x.claim(k, 4), want[k]);
    }

    private static UnreadScript inARow() {
        UnreadScript x = withClaims(1);
        for (int k = 1; k < 20; k++) told(x, "sign " + k + " on " + (k - 1) + ";", 1);
        return x;
    }

    private static void claimHowManyHangOnIt() {
        check.promise("31: 5 how many hang on it (and so on; not withdrawn ones)");
        UnreadScript x = inARow();
        for (int k = 0; k < 20; k++) check.due("claim(" + k + ", 5)", x.claim(k, 5), 19 - k);
        x.withdraw(15);
        for (int k = 0; k < 20; k++) check.due("claim(" + k + ", 5)", x.claim(k, 5), Math.max(0, 14 - k));
        UnreadScript y = new UnreadScript();
        told(y, "sign 1; sign 2 on 0; sign 3 on 0; sign 4 on 1, 2;", 4);
        check.due("each once, though by two ways", y.claim(0, 5), 3);
    }

    private static void claimHowDeep() {
        check.promise("31: 6 how deep it hangs (0: on none; else one more than the deepest)");
        UnreadScript x = inARow();
        for (int k = 0; k < 20; k++) check.due("claim(" + k + ", 6)", x.claim(k, 6), k);
        UnreadScript y = new UnreadScript();
        told(y, "sign 1; sign 2 on 0; sign 3 on 1; sign 4 on 0; sign 5 on 2, 3, 0; sign 6 on 3, 0;", 6);
        int[] want = {0, 1, 2, 1, 3, 2};
        for (int k = 0; k < 6; k++) check.due("claim(" + k + ", 6)", y.claim(k, 6), want[k]);
        y.withdraw(0);
        for (int k = 0; k < 6; k++) check.due("withdrawn, claim(" + k + ", 6)", y.claim(k, 6), want[k]);
    }

    // ---- Promise 32

    private static void withdrawNoClaim() {
        check.promise("32: BAD");
        for (int n : new int[] {0, 1, 19, 20}) {
            UnreadScript x = withClaims(n);
            for (int k : new int[] {n, n + 1, 20, 32, -1, MIN, MAX}) {
                check.due(n + " CLAIMS, withdraw(" + k + ")", x.withdraw(k), BAD);
            }
            check.due("count(7)", x.count(7), 0);
            if (n > 0) check.due("the last", x.withdraw(n - 1), 1);
        }
    }

    private static void withdrawOnce() {
        check.promise("32: STATE: it is already");
        UnreadScript x = withClaims(2);
        told(x, "word 1 on 0;", 1);
        check.due("withdraw(0)", x.withdraw(0), 2);
        check.due("withdraw(0) again", x.withdraw(0), STATE);
        check.due("one that hung on it", x.withdraw(2), STATE);
        x.day(1);
        check.due("on another day", x.withdraw(0), STATE);
        check.due("claim(0, 3)", x.claim(0, 3), 0);
        check.due("count(7)", x.count(7), 2);
    }

    private static void withdrawOneToTwenty() {
        check.promise("32: how many are by that");
        for (int k = 0; k < 20; k++) {
            UnreadScript x = inARow();
            check.due("withdraw(" + k + ")", x.withdraw(k), 20 - k);
            check.due("count(7)", x.count(7), 20 - k);
            check.due("known(0, 0)", x.known(0, 0), k);
            if (k > 0) check.due("those left", x.withdraw(0), k);
        }
    }

    private static void withdrawLeavesThoseAhead() {
        check.promise("32: with all that hang on it, and no others");
        UnreadScript x = new UnreadScript();
        told(x, "sign 1; sign 2; sign 3 on 0; sign 4 on 1; sign 5 on 2, 3; sign 6 on 1;", 6);
        check.due("withdraw(2)", x.withdraw(2), 2);
        int[] gone = {NONE, NONE, 0, NONE, 0, NONE};
        for (int k = 0; k < 6; k++) check.due("claim(" + k + ", 3)", x.claim(k, 3), gone[k]);
    }

    private static void withdrawnOnesKeepTheirDay() {
        check.promise("32: those that are already stay as they are");
        UnreadScript x = inARow();
        check.due("withdraw(10)", x.withdraw(10), 10);
        x.day(7);
        check.due("withdraw(5)", x.withdraw(5), 5);
        check.due("claim(10, 3)", x.claim(10, 3), 0);
        check.due("claim(19, 3)", x.claim(19, 3), 0);
        check.due("claim(9, 3)", x.claim(9, 3), 7);
    }

    // ---- Promise 33

    private static void dayIsZeroTo99() {
        check.promise("33: THE DAY (0 to 99; 0 at first); BAD");
        UnreadScript x = new UnreadScript();
        for (int d : new int[] {-1, 100, 101, MIN, MAX}) check.due("day(" + d + ")", x.day(d), BAD);
        check.due("count(8)", x.count(8), 0);
        check.due("day(0)", x.day(0), 0);
        check.due("day(99)", x.day(99), 0);
        check.due("count(8)", x.count(8), 99);
        for (int d : new int[] {-1, 100, MIN, MAX}) check.due("day(" + d + ")", x.day(d), BAD);
    }

    private static void dayNotAheadOfItself() {
        check.promise("33: not ahead of it: what it was");
        UnreadScript x = new UnreadScript();
        check.due("day(50)", x.day(50), 0);
        for (int d : new int[] {49, 0, 1}) check.due("day(" + d + ")", x.day(d), BAD);
        check.due("the same", x.day(50), 50);
        check.due("the next", x.day(51), 50);
        check.due("the one before", x.day(50), BAD);
        check.due("count(8)", x.count(8), 51);
    }

    // ---- Promise 34

    private static void knownOnZeroTo99() {
        check.promise("34: on a day (0 to 99); BAD");
        UnreadScript x = withClaims(1);
        x.day(5);
        for (int what = 0; what < 3; what++) {
            for (int d : new int[] {-1, 100, MIN, MAX}) check.due("known(" + d + ", " + what + ")", x.known(d, what), BAD);
        }
        for (int d : new int[] {0, 4, 5, 6, 99}) check.due("known(" + d + ", 0)", x.known(d, 0), 1);
    }

    private static void knownWithoutSuchNumber() {
        check.promise("34: BAD, no such number; ahead of NONE");
        for (int n = 0; n < 2; n++) {
            UnreadScript x = withClaims(n);
            for (int what : new int[] {-1, 3, MIN, MAX}) check.due("known(0, " + what + ")", x.known(0, what), BAD);
            for (int what = 1; what < 3; what++) check.due("known(100, " + what + ")", x.known(100, what), BAD);
        }
    }

    private static void knownNone() {
        check.promise("34: NONE (1, 2)");
        UnreadScript x = new UnreadScript();
        int[] none = {0, NONE, NONE};
        for (int what = 0; what < 3; what++) check.due("no CLAIMS", x.known(0, what), none[what]);
        x.day(9);
        told(x, "sign 1;", 1);
        for (int what = 0; what < 3; what++) check.due("not come yet", x.known(8, what), none[what]);
        x.day(12);
        x.withdraw(0);
        for (int what = 0; what < 3; what++) check.due("withdrawn", x.known(12, what), none[what]);
    }

    private static void knownOnThatDayOrAhead() {
        check.promise("34: KNOWN on a day: it came on that day or ahead");
        UnreadScript x = new UnreadScript();
        x.day(40);
        told(x, "sign 1;", 1);
        int[][] want = {{0, 0}, {39, 0}, {40, 1}, {41, 1}, {99, 1}};
        for (int[] row : want) check.due("known(" + row[0] + ", 0)", x.known(row[0], 0), row[1]);
    }

    private static void knownNotWithdrawnOnThatDay() {
        check.promise("34: and was not withdrawn on that day or ahead");
        UnreadScript x = withClaims(2);
        x.day(40);
        x.withdraw(0);
        int[][] want = {{0, 2}, {39, 2}, {40, 1}, {41, 1}, {99, 1}};
        for (int[] row : want) check.due("known(" + row[0] + ", 0)", x.known(row[0], 0), row[1]);
        UnreadScript y = withClaims(1);
        y.withdraw(0);
        check.due("come and withdrawn on day 0", y.known(0, 0), 0);
        check.due("and later", y.known(99, 0), 0);
    }

    private static void knownTheFirstAndTheLatest() {
        check.promise("34: the first (1), the latest (2)");
        UnreadScript x = withClaims(20);
        check.due("the first of all", x.known(0, 1), 0);
        check.due("the latest of all", x.known(0, 2), 19);
        check.due("all", x.known(0, 0), 20);
        x.withdraw(0);
        x.withdraw(19);
        check.due("the first", x.known(0, 1), 1);
        check.due("the latest", x.known(0, 2), 18);
        for (int k = 1; k < 18; k++) x.withdraw(k);
        check.due("one is the first", x.known(99, 1), 18);
        check.due("and the latest", x.known(99, 2), 18);
    }
}
