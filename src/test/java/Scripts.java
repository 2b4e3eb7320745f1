/** Ways to lay TEXTS and to feed THE TAPE, for tests. */
final class Scripts {
    /** So that FORM i has its own features, unlike all others' in 2 or more. */
    private static final int[] FAR = {0, 7, 56, 448, 3584, 4095, 4088, 4039, 3647, 511};

    private Scripts() { }

    /** A new script whose FORMS 0 to forms - 1 are a SIGN each. */
    static UnreadScript withForms(int forms) {
        UnreadScript x = new UnreadScript();
        x.likeness(0);
        for (int f = 0; f < forms; f++) x.form(f < FAR.length ? FAR[f] : f);
        return x;
    }

    /** Lays a TEXT told by letters (a is FORM 0), '.' for a gap, ' ' for a WORD's end; SHEET 3 is used for it. */
    static int text(UnreadScript x, String told) {
        x.sheet(3, 2, told.length());
        for (int i = 0; i < told.length(); i++) {
            char c = told.charAt(i);
            x.lay(3, i, c == '.' ? -1 : c == ' ' ? -2 : c - 'a');
        }
        return x.text(3, 2, 0, told.length());
    }

    /** Feeds a text to THE TAPE that is empty, and cuts it to its length. */
    static void feed(UnreadScript x, String text) {
        for (int from = 0; from < text.length(); from += 8) {
            long v = 0;
            for (int i = from; i < from + 8; i++) v = v << 8 | (i < text.length() ? text.charAt(i) & 255 : ' ');
            x.feed(v);
        }
        x.end(text.length());
    }

    static int claims(UnreadScript x, String text) {
        feed(x, text);
        return x.claims();
    }

    /** SOUNDS told by figures, as a number to the base 4. */
    static int sounds(String told) {
        return Integer.parseInt(told, 4);
    }
}
