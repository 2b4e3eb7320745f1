/** Promises 27 to 34: THE TAPE, CLAIMS, FAULTS, THE DAY. */
public final class ClaimsTest {
    private static final int BAD = -1, STATE = -2, FULL = -3, NONE = -4;
    private static final Check check = new Check();

    public static void main(String[] args) {
        feed();
        end();
        claims();
        tokens();
        tapeCut();
        faults();
        faultsOfHanging();
        faultsOfClaimed();
        claimsFull();
        claim();
        withdraw();
        day();
        known();
        check.finish();
    }

    private static void feed() {
        check.promise("promise 27");
        UnreadScript x = new UnreadScript();
        for (int n = 1; n <= 20; n++) check.due("feed", x.feed(0x2020202020202020L), 8 * n);
        check.due("a 21st", x.feed(0), FULL);
        check.due("count(9)", x.count(9), 160);
        x.end(153);
        check.due("161 bytes", x.feed(0), FULL);
        check.due("count(9)", x.count(9), 153);
        x.end(152);
        check.due("160 bytes", x.feed(0x2020202020202020L), 160);
        check.due("a blank tape", x.claims(), 0);
        check.due("count(9)", x.count(9), 0);
        // The highest byte first: "word 7;" behind a blank.
        check.due("feed", x.feed(0x20776f726420373bL), 8);
        check.due("claims()", x.claims(), 1);
        check.due("kind", x.claim(0, 0), 2);
        check.due("number", x.claim(0, 1), 7);
        x.feed(0xff20202020202020L);
        check.due("byte 255", x.claims(), -10);
        check.due("byte 255", x.fault(), 1);
        x.feed(0x0a20202020202020L);
        check.due("byte 10", x.claims(), -10);
    }

    private static void end() {
        check.promise("promise 28");
        UnreadScript x = new UnreadScript();
        check.due("end(0) of nothing", x.end(0), 0);
        check.due("end(1) of nothing", x.end(1), BAD);
        x.feed(0);
        check.due("end(-1)", x.end(-1), BAD);
        check.due("end(9)", x.end(9), BAD);
        check.due("end(8)", x.end(8), 8);
        check.due("end(3)", x.end(3), 8);
        check.due("count(9)", x.count(9), 3);
        check.due("feed", x.feed(0), 11);
        check.due("end(0)", x.end(0), 11);
        check.due("count(9)", x.count(9), 0);
        Scripts.feed(x, "name 3; x");
        x.end(7);
        check.due("claims()", x.claims(), 1);
    }

    private static void claims() {
        check.promise("promise 29");
        UnreadScript x = new UnreadScript();
        check.due("claims() of nothing", x.claims(), 0);
        told(x, "sign 0;sound 99 on 0;  word 07 on 1 ,0;tongue 1;name 1;", 5, 0);
        check.due("count(6)", x.count(6), 5);
        check.due("07", x.claim(2, 1), 7);
        // None comes of a text that has a FAULT, and THE TAPE is empty.
        told(x, "sign 1; sign 2; sign 3", -10 - 22, 2);
        check.due("count(6)", x.count(6), 5);
        check.due("count(9)", x.count(9), 0);
        told(x, "", 0, 0);
        told(x, "   ", 0, 0);
        // What was told by a text with a FAULT is not claimed.
        told(x, "sign 1;", 1, 0);
    }

    /** Tells CLAIMS and looks at what came, and at the FAULT. */
    private static void told(UnreadScript x, String text, int came, int fault) {
        check.due("'" + text + "'", Scripts.claims(x, text), came);
        check.due("fault of '" + text + "'", x.fault(), fault);
    }

    private static void refused(String text, int place, int fault) {
        told(new UnreadScript(), text, -10 - place, fault);
    }

    private static void tokens() {
        check.promise("promises 29, 30");
        told(new UnreadScript(), "sign5;sound6on0;", 2, 0);
        told(new UnreadScript(), "tongue12 ;name 3on 0 , 1 ;", -10 - 23, 3);
        told(new UnreadScript(), "  sign  5  ;  ", 1, 0);
        told(new UnreadScript(), "sign 00;", 1, 0);
        refused("signs 5;", 0, 1);
        refused("signz 5;", 0, 1);
        refused("signa 5;", 0, 1);
        refused("xign 5;", 0, 1);
        refused("sigh 5;", 0, 1);
        refused("sign 5 in 0;", 7, 1);
        refused("sig 5;", 0, 1);
        refused("sign 5 o 0;", 7, 1);
        refused("sign 5 onn 0;", 7, 1);
        refused("signon 5;", 0, 1);
        refused("Sign 5;", 0, 1);
        refused("sign 5; {", 8, 1);
        refused("sign `", 5, 1);
        refused("sign /", 5, 1);
        refused("sign :", 5, 1);
        refused("sign 123;", 5, 1);
        refused("sign 005;", 5, 1);
        refused("sign -5;", 5, 1);
        refused("sign\t5;", 4, 1);
        refused("sign 5. ", 6, 1);
        refused("sign 55555555555555555555;", 5, 1);
        refused("sign 4294967297;", 5, 1);
    }

    private static void tapeCut() {
        check.promise("promises 28, 29");
        // What stood behind the end of THE TAPE is no more of a TOKEN.
        for (String text : new String[] {"sign 555;", "sign 5;;;", "sign 5 on"}) {
            UnreadScript x = new UnreadScript();
            Scripts.feed(x, text);
            x.end(6);
            check.due("'" + text + "' cut to 6", x.claims(), -16);
            check.due("fault", x.fault(), 2);
        }
        UnreadScript x = new UnreadScript();
        Scripts.feed(x, "signs");
        x.end(4);
        check.due("'signs' cut to 4", x.claims(), -14);
        check.due("fault", x.fault(), 2);
        String blanks = " ".repeat(154);
        told(new UnreadScript(), blanks + "sign 5", -170, 2);
        told(new UnreadScript(), blanks + "  sign", -170, 2);
        told(new UnreadScript(), blanks + "sign5;", 1, 0);
        told(new UnreadScript(), blanks + "sign5 ", -170, 2);
        told(new UnreadScript(), blanks + "     {", -169, 1);
    }

    private static void faults() {
        check.promise("promise 30");
        check.due("fault() of a new object", new UnreadScript().fault(), 0);
        refused("5;", 0, 2);
        refused(";", 0, 2);
        refused(" ,", 1, 2);
        refused("on 5;", 0, 2);
        refused("sign sign;", 5, 2);
        refused("sign on;", 5, 2);
        refused("sign ;", 5, 2);
        refused("sign ,", 5, 2);
        refused("sign", 4, 2);
        refused("sign   ", 7, 2);
        refused("sign 5", 6, 2);
        refused("sign 5 ", 7, 2);
        refused("sign 5 6;", 7, 2);
        refused("sign 5,", 6, 2);
        refused("sign 5 sign 6;", 7, 2);
        refused("sign 5;;", 7, 2);
        String two = "sign 5; sign 6 ";
        refused(two + "on;", 17, 2);
        refused(two + "on on 0;", 18, 2);
        refused(two + "on ,", 18, 2);
        refused(two + "on sign 5;", 18, 2);
        refused(two + "on", 17, 2);
        refused(two + "on 0", 19, 2);
        refused(two + "on 0 on 0;", 20, 2);
        refused(two + "on 0 0;", 20, 2);
        refused(two + "on 0,;", 20, 2);
        refused(two + "on 0, ", 21, 2);
        refused(two + "on 0 sign;", 20, 2);
        // A TOKEN is read when the one before has been taken: the first FAULT is told.
        refused("5 {", 0, 2);
        refused("sign 5; sign 5 {", 13, 4);
        refused("sign 5; word 6 on 3 {", 18, 3);
        refused("sign { sign", 5, 1);
    }

    private static void faultsOfHanging() {
        refused("sign 5 on 0;", 10, 3);
        refused("sign 5; word 1 on 1;", 18, 3);
        refused("sign 5; word 1 on 0, 0;", 21, 3);
        refused("sign 5; word 1 on 0, 00;", 21, 3);
        refused("sign 5; sign 6; word 1 on 1,0,1;", 30, 3);
        UnreadScript x = new UnreadScript();
        told(x, "sign 5; word 1;", 2, 0);
        told(x, "name 1 on 2;", -20, 3);
        told(x, "name 1 on 20;", -20, 3);
        told(x, "name 1 on 99;", -20, 3);
        told(x, "name 1; name 2 on 2;", 2, 0);
        x.withdraw(0);
        told(x, "name 3 on 0;", -20, 3);
        told(x, "name 3 on 1, 0;", -10 - 13, 3);
        told(x, "name 3 on 1;", 1, 0);
    }

    private static void faultsOfClaimed() {
        refused("sign 5; sign 5;", 13, 4);
        refused("sign 5; sign  05;", 14, 4);
        told(new UnreadScript(), "sign 5; word 5; sign 6;", 3, 0);
        UnreadScript x = new UnreadScript();
        told(x, "tongue 9; name 1 on 0;", 2, 0);
        told(x, "tongue 9;", -17, 4);
        x.withdraw(0);
        told(x, "name 1; tongue 9 on 2;", 2, 0);
        told(x, "tongue 9;", -17, 4);
        told(x, "name 01;", -15, 4);
        check.due("count(6)", x.count(6), 4);
    }

    private static void claimsFull() {
        UnreadScript x = new UnreadScript();
        for (int n = 0; n < 19; n++) told(x, "sign " + n + ";", 1, 0);
        told(x, "word 1; word 2;", -18, 5);
        told(x, "word 1;word 1;", -17, 5);
        told(x, "word 1; 5", -18, 2);
        told(x, "word 1 on 18;", 1, 0);
        told(x, "", 0, 0);
        told(x, " word 2;", -11, 5);
        x.withdraw(3);
        told(x, "sign 3;", -10, 5);
        told(x, "words 3;", -10, 1);
        check.due("count(6)", x.count(6), 20);
        check.due("withdraw(19)", x.withdraw(19), 1);
        check.due("claim(19, 3)", x.claim(19, 3), 0);
        check.due("claim(20, 0)", x.claim(20, 0), BAD);
        check.due("known(0, 0)", x.known(0, 0), 18);
        check.due("known(0, 2)", x.known(0, 2), 18);
        check.due("withdraw(18)", x.withdraw(18), 1);
        check.due("count(7)", x.count(7), 3);
    }

    private static void claim() {
        check.promise("promise 31");
        UnreadScript x = new UnreadScript();
        check.due("claim(0, 0) of nothing", x.claim(0, 0), BAD);
        x.day(4);
        told(x, "sign 1;sound 2;word 3 on 1;name 4 on 0,2;tongue 5 on 0;", 5, 0);
        x.day(6);
        told(x, "sign 6 on 3, 4, 0; sign 7 on 5;", 2, 0);
        int[][] want = {
            {0, 1, 4, NONE, 0, 4, 0}, {1, 2, 4, NONE, 0, 4, 0}, {2, 3, 4, NONE, 1, 3, 1}, {3, 4, 4, NONE, 2, 2, 2},
            {4, 5, 4, NONE, 1, 2, 1}, {0, 6, 6, NONE, 3, 1, 3}, {0, 7, 6, NONE, 1, 0, 4}};
        for (int k = 0; k < 7; k++) {
            for (int what = 0; what < 7; what++) check.due("claim(" + k + ", " + what + ")", x.claim(k, what), want[k][what]);
        }
        told(x, "name 98 on 6; name 99 on 7", -10 - 26, 2);
        check.due("claim(7, 0)", x.claim(7, 0), BAD);
        check.due("claim(-1, 0)", x.claim(-1, 0), BAD);
        check.due("claim(0, 7)", x.claim(0, 7), BAD);
        check.due("claim(0, -1)", x.claim(0, -1), BAD);
        x.day(8);
        x.withdraw(4);
        check.due("claim(4, 3)", x.claim(4, 3), 8);
        check.due("claim(6, 3)", x.claim(6, 3), 8);
        check.due("claim(0, 5)", x.claim(0, 5), 1);
        check.due("claim(5, 4) stays", x.claim(5, 4), 3);
        check.due("claim(6, 6) stays", x.claim(6, 6), 4);
        check.due("claim(4, 5)", x.claim(4, 5), 0);
        told(x, "name 97; name 98;", 2, 0);
        for (int k = 7; k < 9; k++) {
            check.due("nothing of the refused text", x.claim(k, 4), 0);
            check.due("nothing of the refused text", x.claim(k, 6), 0);
            check.due("the day", x.claim(k, 2), 8);
        }
    }

    private static void withdraw() {
        check.promise("promise 32");
        UnreadScript x = new UnreadScript();
        check.due("withdraw(0) of nothing", x.withdraw(0), BAD);
        told(x, "sign 1;sign 2;word 1 on 0;word 2 on 1;name 1 on 2,3;name 2 on 3;", 6, 0);
        x.day(2);
        check.due("withdraw(2)", x.withdraw(2), 2);
        check.due("withdraw(4)", x.withdraw(4), STATE);
        x.day(5);
        check.due("withdraw(1)", x.withdraw(1), 3);
        check.due("what was withdrawn keeps its day", x.claim(4, 3), 2);
        check.due("claim(5, 3)", x.claim(5, 3), 5);
        check.due("claim(0, 3)", x.claim(0, 3), NONE);
        check.due("withdraw(6)", x.withdraw(6), BAD);
        check.due("withdraw(-1)", x.withdraw(-1), BAD);
        check.due("count(7)", x.count(7), 5);
        check.due("count(6)", x.count(6), 6);
        check.due("withdraw(0)", x.withdraw(0), 1);
        check.due("withdraw(0) again", x.withdraw(0), STATE);
    }

    private static void day() {
        check.promise("promise 33");
        UnreadScript x = new UnreadScript();
        check.due("day(-1)", x.day(-1), BAD);
        check.due("day(100)", x.day(100), BAD);
        check.due("day(0)", x.day(0), 0);
        check.due("day(7)", x.day(7), 0);
        check.due("day(6)", x.day(6), BAD);
        check.due("day(7)", x.day(7), 7);
        check.due("day(99)", x.day(99), 7);
        check.due("count(8)", x.count(8), 99);
        check.due("day(99)", x.day(99), 99);
    }

    private static void known() {
        check.promise("promise 34");
        UnreadScript x = new UnreadScript();
        check.due("known(0, 0) of nothing", x.known(0, 0), 0);
        check.due("known(0, 1) of nothing", x.known(0, 1), NONE);
        check.due("known(0, 2) of nothing", x.known(0, 2), NONE);
        x.day(2);
        told(x, "sign 1; sign 2;", 2, 0);
        x.day(4);
        told(x, "sign 3 on 0;", 1, 0);
        x.withdraw(1);
        x.day(6);
        x.withdraw(0);
        told(x, "sign 4; sign 5;", 2, 0);
        x.withdraw(4);
        int[][] want = {{1, 0, NONE, NONE}, {2, 2, 0, 1}, {3, 2, 0, 1}, {4, 2, 0, 2}, {5, 2, 0, 2}, {6, 1, 3, 3},
            {99, 1, 3, 3}};
        for (int[] row : want) {
            for (int what = 0; what < 3; what++) {
                check.due("known(" + row[0] + ", " + what + ")", x.known(row[0], what), row[what + 1]);
            }
        }
        check.due("known(-1, 0)", x.known(-1, 0), BAD);
        check.due("known(100, 0)", x.known(100, 0), BAD);
        check.due("known(0, 3)", x.known(0, 3), BAD);
        check.due("known(0, -1)", x.known(0, -1), BAD);
    }
}
