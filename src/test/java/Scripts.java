/** Ways to lay TEXTS and to feed THE TAPE, for tests. */
final class Scripts {
    /** So that FORM i has its own features, unlike all others' in 2 or more. */
    private static final int[] FAR = {0, 7, 56, 448, 3584, 4095, 4088, 4039, 3647, 511};

    private Scripts() { }

    /** A new script whose FORMS 0 to forms - 1 are a SIGN each. */
    static UnreadScript withForms(int forms) {
        UnreadScript x = new UnreadScript();
        x.likeness(0);
        for (int f = 0; f < forms; f++) x.form(f < FAR.length ? FAR[f] : f);
        return x;
    }

    /** Lays a TEXT told by letters (a is FORM 0), '.' for a gap, ' ' for a WORD's end; SHEET 3 is used for it. */
    static int text(UnreadScript x, String told) {
        x.sheet(3, 2, told.length());
        for (int i = 0; i < told.length(); i++) {
            char c = told.charAt(i);
            x.lay(3, i, c == '.' ? -1 : c == ' ' ? -2 : c - 'a');
        }
        return x.text(3, 2, 0, told.length());
    }

    /** Feeds a text to THE TAPE that is empty, and cuts it to its length. */
    static void feed(UnreadScript x, String text) {
        for (int from = 0; from < text.length(); from += 8) {
            long v = 0;
            for (int i = from; i < from + 8; i++) v = v << 8 | (i < text.length() ? text.charAt(i) & 255 : ' ');
            x.feed(v);
        }
        x.end(text.length());
    }

    static int claims(UnreadScript x, String text) {
        feed(x, text);
        return x.claims();
    }

    /** SOUNDS told by figures, as a number to the base 4. */
    static int sounds(String told) {
        return Integer.parseInt(told, 4);
    }

    /** How many of each MARK, as a number. */
    static int marks(int a, int b, int c, int d) {
        return a + 32 * b + 1024 * c + 32768 * d;
    }

    /** A script that has some of everything, a FAULT of claims() too, and room for more. */
    static UnreadScript some() {
        UnreadScript x = withForms(5);
        text(x, "abc abd.e");
        text(x, "ab ba c abe");
        x.apart(0, 1, 4);
        x.apart(2, 3, 9);
        x.account(marks(2, 0, 0, 0), marks(0, 1, 0, 0));
        x.name(2, sounds("01"));
        x.name(3, sounds("012"));
        x.word(2, sounds("12"));
        x.word(1, sounds("3"));
        x.day(3);
        claims(x, "sign 1; sound 2 on 0; word 3 on 1;");
        x.day(5);
        x.withdraw(1);
        claims(x, "sign 1;");
        feed(x, "name 9 on 0;tongue 98; x");
        x.sheet(0, 0, 4);
        x.lay(0, 1, 2);
        x.sheet(1, 1, 3);
        x.lay(1, 1, 9);
        x.lay(1, 2, -2);
        return x;
    }

    /** A script that has as much of everything as there can be, and 160 bytes on THE TAPE. */
    static UnreadScript full() {
        UnreadScript x = withForms(24);
        x.sheet(0, 0, 60);
        for (int i = 0; i < 60; i++) x.lay(0, i, i % 24);
        for (int t = 0; t < 8; t++) x.text(0, 0, t, 24);
        for (int f = 1; f < 24; f++) x.apart(f - 1, f, f % 10);
        for (int n = 0; n < 8; n++) x.account(marks(20, 20, 20, 20), marks(20, 20, 20, 20));
        for (int n = 0; n < 4; n++) x.name(8, 65535 - n);
        for (int n = 0; n < 12; n++) x.word(6, 4095 - n);
        claims(x, "sign0;sign1;sign2;sign3;sign4;sign5;sign6;sign7;sign8;sign9;");
        claims(x, "word0;word1;word2;word3;word4;word5;word6;word7;word8;word9on0;");
        x.day(99);
        x.withdraw(0);
        for (int k = 1; k < 4; k++) x.sheet(k, k - 1, 60);
        feed(x, "sign0;name0 on 1,2,3;".concat(" ".repeat(139)));
        return x;
    }
}
