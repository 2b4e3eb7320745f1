/** An unread script: what each call promises stands in ../shared/DOC.md. */
public final class UnreadScript {
    public static final int BAD = -1, STATE = -2, FULL = -3, NONE = -4;

    // Answers of calls that have answers of -1 and -2 beside: -10 and below, so that none is taken for another.
    private static final int TOLD = -10, CELL_TOLD = -20;
    private static final int NULL_FAULT = 1, INDEX_FAULT = 2, CAST_FAULT = 3, SIZE_FAULT = 4;

    private final Forms formRows;
    private final Texts textRows;
    private final Kinship kinship;
    private final Accounts accountRows;
    private final Names nameRows;
    private final Tongue tongue;
    private final Tape tape;
    private final Claims claimRows;
    private final Sheets sheetRows;

    public UnreadScript() {
        Forms forms = new Forms();
        Texts texts = new Texts(forms);
        Tape bytes = new Tape();
        formRows = forms;
        textRows = texts;
        kinship = new Kinship(forms, texts);
        accountRows = new Accounts();
        nameRows = new Names(texts);
        tongue = new Tongue(texts);
        tape = bytes;
        claimRows = new Claims(bytes);
        sheetRows = new Sheets();
    }

    // ---- forms, signs

    public int form(int features) {
        return formRows.add(features);
    }

    public int likeness(int v) {
        return formRows.limitTo(v);
    }

    public int sign(int form) {
        return formRows.signOf(form);
    }

    public int signs(int what) {
        switch (what) {
            case 0: return formRows.groups();
            case 1: return formRows.membersOf(formRows.greatest());
            case 2: return formRows.greatest();
            case 3: return formRows.leastLimit();
            default: return BAD;
        }
    }

    // ---- texts

    public int text(int k, int lane, int f, int n) {
        if (!Sheets.isSheet(k) || !Sheets.isLane(lane) || n < 1 || n > Texts.CELLS) return BAD;
        int fault = sheetRows.faultAs(k, lane);
        if (fault != 0) return TOLD - fault;
        for (int i = 0; i < n; i++) {
            // f + i never wraps: CELL f has been found on the SHEET before i is above 0.
            if (!sheetRows.hasCell(k, f + i)) return TOLD - INDEX_FAULT;
            if (!textRows.draftCell(i, sheetRows.cellOf(k, f + i))) return CELL_TOLD - i;
        }
        return textRows.addDraft(n);
    }

    public int drop() {
        return textRows.dropLatest();
    }

    public int textOf(int t, int what) {
        return textRows.tell(t, what);
    }

    public int counted(int sign) {
        return formRows.isSign(sign) ? textRows.timesOf(sign) : BAD;
    }

    public int beside(int a, int b) {
        return formRows.isSign(a) && formRows.isSign(b) ? textRows.timesBeside(a, b) : BAD;
    }

    public long chance(int a, int b, int what) {
        if (!formRows.isSign(a) || !formRows.isSign(b) || what < 0 || what > 1) return BAD;
        long above = textRows.chanceAbove(a, b);
        long below = textRows.chanceBelow();
        long shared = Texts.greatestShared(above, below);
        if (shared < 1) return BAD;
        return (what == 0 ? above : below) / shared;
    }

    public int runs(int what) {
        switch (what) {
            case 0: return Integer.compare(textRows.likeEdges(true), textRows.likeEdges(false));
            case 1: return textRows.likeEdges(false);
            case 2: return textRows.likeEdges(true);
            default: return TOLD;
        }
    }

    // ---- grids

    public int akin(int a, int b) {
        return formRows.isSign(a) && formRows.isSign(b) && a != b ? kinship.akinOf(a, b) : BAD;
    }

    public int apart(int a, int b, int v) {
        return kinship.tellApart(a, b, v);
    }

    public int grid(int rows, int what) {
        return rows >= 1 && rows <= Kinship.MOST_ROWS ? kinship.tell(rows, what) : BAD;
    }

    // ---- numbers

    public int account(int items, int total) {
        return accountRows.add(items, total);
    }

    public int values(int what) {
        return accountRows.tellFits(what);
    }

    public int sure(int mark) {
        return accountRows.valuesSeen(mark);
    }

    // ---- names, sounds

    public int name(int n, int sounds) {
        return nameRows.add(n, sounds);
    }

    public int dragged(int name, int t, int what) {
        return nameRows.drag(name, t, what);
    }

    public int together(int a, int t, int b, int u) {
        return nameRows.pairs(a, t, b, u);
    }

    public int word(int n, int sounds) {
        return tongue.add(n, sounds);
    }

    public int tabled(int i) {
        return tongue.signAt(i);
    }

    public int read(int texts, int table) {
        return tongue.readWith(texts, table);
    }

    public int best(int texts, int what) {
        return tongue.tellBest(texts, what);
    }

    public int judge(int texts, int others, int what) {
        return tongue.holdAgainst(texts, others, what);
    }

    // ---- claims

    public int feed(long v) {
        return tape.append(v);
    }

    public int end(int n) {
        return tape.cut(n);
    }

    public int claims() {
        return claimRows.take();
    }

    public int fault() {
        return claimRows.latestFault();
    }

    public int claim(int k, int what) {
        return claimRows.tell(k, what);
    }

    public int withdraw(int k) {
        return claimRows.takeBack(k);
    }

    public int day(int d) {
        return claimRows.moveDay(d);
    }

    public int known(int d, int what) {
        return claimRows.knownOn(d, what);
    }

    // ---- sheets

    public int sheet(int k, int lane, int n) {
        return sheetRows.renew(k, lane, n);
    }

    public int lay(int k, int i, int v) {
        return sheetRows.put(k, i, v);
    }

    public int count(int what) {
        switch (what) {
            case 0: return formRows.size();
            case 1: return textRows.size();
            case 2: return textRows.timesOfAll();
            case 3: return accountRows.size();
            case 4: return nameRows.size();
            case 5: return tongue.size();
            case 6: return claimRows.size();
            case 7: return claimRows.withdrawn();
            case 8: return claimRows.today();
            case 9: return tape.length();
            case 10: return sheetRows.lengthOf(0);
            default: return BAD;
        }
    }

    /** FORMS, and the SIGNS into which LIKENESS groups them. */
    private static final class Forms {
        static final int MOST = 24;
        private static final int FEATURES = 12;

        private final int[] features = new int[MOST];
        private final int[] signs = new int[MOST];
        private final int[] trial = new int[MOST];
        private int size;
        private int limit = 1;

        int size() {
            return size;
        }

        int add(int bits) {
            if (bits < 0 || bits >= 1 << FEATURES) return BAD;
            if (size >= MOST) return FULL;
            features[size] = bits;
            size++;
            group(limit, signs);
            return size - 1;
        }

        int limitTo(int v) {
            if (v < 0 || v > FEATURES) return BAD;
            int was = limit;
            limit = v;
            group(limit, signs);
            return was;
        }

        boolean isForm(int f) {
            return f >= 0 && f < size;
        }

        boolean isSign(int s) {
            return isForm(s) && signs[s] == s;
        }

        int signOf(int f) {
            return f >= 0 && f < size ? signs[f] : BAD;
        }

        int groups() {
            int found = 0;
            for (int f = 0; f < size; f++) {
                if (signs[f] == f) found++;
            }
            return found;
        }

        int membersOf(int sign) {
            int found = 0;
            for (int f = 0; f < size; f++) {
                if (signs[f] == sign) found++;
            }
            return found;
        }

        int greatest() {
            int greatest = NONE;
            int most = 0;
            for (int s = 0; s < size; s++) {
                int members = membersOf(s);
                if (members > most) {
                    most = members;
                    greatest = s;
                }
            }
            return greatest;
        }

        int leastLimit() {
            for (int v = 0; v < FEATURES; v++) {
                group(v, trial);
                if (isOneGroup(trial)) return v;
            }
            return FEATURES;
        }

        private boolean isOneGroup(int[] groups) {
            for (int f = 0; f < size; f++) {
                if (groups[f] != 0) return false;
            }
            return true;
        }

        private void group(int most, int[] groups) {
            for (int f = 0; f < size; f++) {
                groups[f] = f;
                for (int g = 0; g < f; g++) {
                    if (Integer.bitCount(features[f] ^ features[g]) <= most) join(groups, f, g);
                }
            }
        }

        // The lower number stays, so that a group always bears its least FORM.
        private static void join(int[] groups, int f, int g) {
            int kept = Math.min(groups[f], groups[g]);
            int lost = Math.max(groups[f], groups[g]);
            for (int h = 0; h <= f; h++) {
                if (groups[h] == lost) groups[h] = kept;
            }
        }
    }

    /** TEXTS and their WORDS, told by SIGNS as FORMS are grouped now. */
    private static final class Texts {
        static final int MOST = 8, CELLS = 24;
        // Of a TEXT's CELLS every second one at most begins a WORD.
        static final int MOST_WORDS = MOST * CELLS / 2;
        private static final int GAP = -1, END = -2;

        private final Forms forms;
        private final int[] draft = new int[CELLS];
        private final int[][] cells = new int[MOST][CELLS];
        private final int[] lengths = new int[MOST];
        private int size;
        private final int[] wordTexts = new int[MOST_WORDS];
        private final int[] wordStarts = new int[MOST_WORDS];
        private final int[] wordLengths = new int[MOST_WORDS];
        private final boolean[] wholes = new boolean[MOST_WORDS];
        private int words;
        private final int[] edges = new int[Forms.MOST];

        Texts(Forms forms) {
            this.forms = forms;
        }

        int size() {
            return size;
        }

        boolean isText(int t) {
            return t >= 0 && t < size;
        }

        int lengthOf(int t) {
            return isText(t) ? lengths[t] : 0;
        }

        boolean areTexts(int bits) {
            return bits >= 0 && bits < 1 << size;
        }

        boolean draftCell(int i, int cell) {
            if (i < 0 || i >= CELLS) return false;
            if (!forms.isForm(cell) && cell != GAP && cell != END) return false;
            draft[i] = cell;
            return true;
        }

        int addDraft(int n) {
            if (n < 1 || n > CELLS) return BAD;
            if (size >= MOST) return FULL;
            for (int i = 0; i < n; i++) cells[size][i] = draft[i];
            lengths[size] = n;
            size++;
            findWords(size - 1);
            return size - 1;
        }

        int dropLatest() {
            if (size < 1) return NONE;
            size--;
            int kept = 0;
            for (int w = 0; w < words; w++) {
                if (wordTexts[w] < size) kept++;
            }
            words = kept;
            return size;
        }

        // What stands outside a TEXT counts as an end: nothing goes on there.
        int signAt(int t, int c) {
            if (t < 0 || t >= size || c < 0 || c >= lengths[t]) return END;
            int cell = cells[t][c];
            return cell < 0 ? cell : forms.signOf(cell);
        }

        private void findWords(int t) {
            int start = 0;
            for (int c = 0; c <= lengths[t]; c++) {
                if (signAt(t, c) != END) continue;
                if (c > start) addWord(t, start, c - start);
                start = c + 1;
            }
        }

        private void addWord(int t, int start, int length) {
            if (words >= MOST_WORDS) return;
            wordTexts[words] = t;
            wordStarts[words] = start;
            wordLengths[words] = length;
            wholes[words] = true;
            for (int i = 0; i < length; i++) {
                if (signAt(t, start + i) == GAP) wholes[words] = false;
            }
            words++;
        }

        int words() {
            return words;
        }

        private boolean isWord(int w) {
            return w >= 0 && w < words;
        }

        boolean isWhole(int w) {
            return isWord(w) && wholes[w];
        }

        int textOfWord(int w) {
            return isWord(w) ? wordTexts[w] : NONE;
        }

        int lengthOfWord(int w) {
            return isWord(w) ? wordLengths[w] : 0;
        }

        int signOfWord(int w, int i) {
            return isWord(w) ? signAt(wordTexts[w], wordStarts[w] + i) : END;
        }

        int lastSignOfWord(int w) {
            return signOfWord(w, lengthOfWord(w) - 1);
        }

        boolean haveOneStem(int v, int w) {
            if (!isWord(v) || !isWord(w) || wordLengths[v] != wordLengths[w]) return false;
            for (int i = 0; i < wordLengths[v] - 1; i++) {
                int one = signAt(wordTexts[v], wordStarts[v] + i);
                if (signAt(wordTexts[w], wordStarts[w] + i) != one) return false;
            }
            return true;
        }

        int tell(int t, int what) {
            if (!isText(t)) return TOLD;
            switch (what) {
                case 0: return lengths[t];
                case 1: return lengths[t] - cellsLike(t, GAP) - cellsLike(t, END);
                case 2: return cellsLike(t, GAP);
                case 3: return wordsIn(t, false);
                case 4: return wordsIn(t, true);
                case 5: return longestWhole(t);
                default: return what >= 10 && what < 10 + lengths[t] ? signAt(t, what - 10) : TOLD;
            }
        }

        private int cellsLike(int t, int sign) {
            int found = 0;
            for (int c = 0; c < lengthOf(t); c++) {
                if (signAt(t, c) == sign) found++;
            }
            return found;
        }

        private int wordsIn(int t, boolean whole) {
            int found = 0;
            for (int w = 0; w < words; w++) {
                if (wordTexts[w] == t && (!whole || isWhole(w))) found++;
            }
            return found;
        }

        private int longestWhole(int t) {
            int longest = 0;
            for (int w = 0; w < words; w++) {
                if (wordTexts[w] == t && isWhole(w)) longest = Math.max(longest, wordLengths[w]);
            }
            return longest;
        }

        int timesOf(int sign) {
            int found = 0;
            for (int t = 0; t < size; t++) found += cellsLike(t, sign);
            return found;
        }

        int timesOfAll() {
            int found = 0;
            for (int t = 0; t < size; t++) found += lengths[t] - cellsLike(t, GAP) - cellsLike(t, END);
            return found;
        }

        int timesBeside(int a, int b) {
            int found = 0;
            for (int t = 0; t < size; t++) {
                for (int c = 1; c < lengths[t]; c++) {
                    if (signAt(t, c - 1) == a && signAt(t, c) == b) found++;
                }
            }
            return found;
        }

        private int placesBeside() {
            int found = 0;
            for (int t = 0; t < size; t++) {
                for (int c = 1; c < lengths[t]; c++) {
                    if (signAt(t, c - 1) >= 0 && signAt(t, c) >= 0) found++;
                }
            }
            return found;
        }

        long chanceAbove(int a, int b) {
            if (timesOfAll() < 2) return 0;
            long second = a == b ? timesOf(b) - 1 : timesOf(b);
            return placesBeside() * (long) timesOf(a) * second;
        }

        long chanceBelow() {
            long all = timesOfAll();
            return all < 2 ? 1 : all * (all - 1);
        }

        static long greatestShared(long a, long b) {
            // Some hundred steps are far more than numbers of 64 bits can need.
            for (int step = 0; step < 200 && b != 0; step++) {
                long rest = a % b;
                a = b;
                b = rest;
            }
            return a;
        }

        int likeEdges(boolean last) {
            for (int s = 0; s < Forms.MOST; s++) edges[s] = 0;
            for (int w = 0; w < words; w++) {
                int sign = last ? lastSignOfWord(w) : signOfWord(w, 0);
                if (isWhole(w) && sign >= 0 && sign < Forms.MOST) edges[sign]++;
            }
            int sum = 0;
            for (int s = 0; s < Forms.MOST; s++) sum += edges[s] * edges[s];
            return sum;
        }
    }

    /** Which SIGNS are AKIN by STEMS, which are told APART, and the GRID of both. */
    private static final class Kinship {
        static final int MOST_ROWS = 3;
        private static final int MOST_APART = 9;
        private static final int SEATS = 8;
        private static final int FAR = 1 << 30;

        private final Forms forms;
        private final Texts texts;
        private final int[][] told = new int[Forms.MOST][Forms.MOST];
        private final int[][] akin = new int[Forms.MOST][Forms.MOST];
        private final int[][] apart = new int[Forms.MOST][Forms.MOST];
        // Of each WORD that is the first of its STEM: the last SIGNS found with that STEM, by bits.
        private final int[] endings = new int[Texts.MOST_WORDS];
        private final int[] seated = new int[SEATS];
        private final int[] row = new int[SEATS];
        private final int[] leastRow = new int[SEATS];
        private int size;
        private int least;

        Kinship(Forms forms, Texts texts) {
            this.forms = forms;
            this.texts = texts;
        }

        int tellApart(int a, int b, int v) {
            if (!forms.isForm(a) || !forms.isForm(b) || a == b || v < 0 || v > MOST_APART) return BAD;
            int was = told[a][b];
            told[a][b] = v;
            told[b][a] = v;
            return was;
        }

        int akinOf(int a, int b) {
            gatherEndings();
            return stemsOfBoth(a, b);
        }

        int tell(int rows, int what) {
            gatherEndings();
            measureAkin();
            measureApart();
            seatBound();
            least = FAR;
            seat(this, rows, 0, 0);
            if (what == 0) return least;
            if (what == 1) return size;
            if (what >= 10 && what < 10 + size) return seated[what - 10];
            if (what >= 30 && what < 30 + size) return leastRow[what - 30];
            return BAD;
        }

        // WORDS that are alike set the same bit, so each row of SIGNS is there once.
        private void gatherEndings() {
            for (int w = 0; w < Texts.MOST_WORDS; w++) endings[w] = 0;
            for (int w = 0; w < texts.words(); w++) {
                int stem = firstOfStem(w);
                int sign = texts.lastSignOfWord(w);
                if (stem >= 0 && sign >= 0 && sign < Forms.MOST) endings[stem] |= 1 << sign;
            }
        }

        private int firstOfStem(int w) {
            if (!texts.isWhole(w) || texts.lengthOfWord(w) < 2) return NONE;
            for (int v = 0; v < w; v++) {
                if (texts.isWhole(v) && texts.haveOneStem(v, w)) return v;
            }
            return w;
        }

        private int stemsOfBoth(int a, int b) {
            int found = 0;
            for (int w = 0; w < Texts.MOST_WORDS; w++) {
                if ((endings[w] >> a & endings[w] >> b & 1) == 1) found++;
            }
            return found;
        }

        private void measureAkin() {
            for (int a = 0; a < Forms.MOST; a++) {
                for (int b = 0; b < Forms.MOST; b++) akin[a][b] = a == b ? 0 : stemsOfBoth(a, b);
            }
        }

        private void measureApart() {
            for (int a = 0; a < Forms.MOST; a++) {
                for (int b = 0; b < Forms.MOST; b++) apart[a][b] = 0;
            }
            for (int f = 0; f < forms.size(); f++) {
                for (int g = 0; g < forms.size(); g++) {
                    int a = forms.signOf(f);
                    int b = forms.signOf(g);
                    apart[a][b] = Math.max(apart[a][b], told[f][g]);
                }
            }
        }

        private void seatBound() {
            size = 0;
            for (int s = 0; s < forms.size() && size < SEATS; s++) {
                if (!isBound(s)) continue;
                seated[size] = s;
                size++;
            }
        }

        private boolean isBound(int s) {
            for (int other = 0; other < forms.size(); other++) {
                if (other != s && (akin[s][other] > 0 || apart[s][other] > 0)) return true;
            }
            return false;
        }

        // Goes through the rows from the least on, so that of equal QUARRELS the first one found stays;
        // a quarrel never shrinks by further SIGNS, so what is no less already is left.
        private static void seat(Kinship k, int rows, int i, int quarrel) {
            if (quarrel >= k.least) return;
            if (i >= k.size || i >= SEATS) {
                k.keep(quarrel);
                return;
            }
            for (int r = 0; r < rows; r++) {
                k.row[i] = r;
                seat(k, rows, i + 1, quarrel + k.quarrelOf(i));
            }
        }

        private void keep(int quarrel) {
            least = quarrel;
            for (int i = 0; i < SEATS; i++) leastRow[i] = row[i];
        }

        private int quarrelOf(int i) {
            int sum = 0;
            for (int j = 0; j < i; j++) {
                int[][] table = row[i] == row[j] ? apart : akin;
                sum += table[seated[i]][seated[j]];
            }
            return sum;
        }
    }

    /** ACCOUNTS, and the VALUES of MARKS by which all of them add up. */
    private static final class Accounts {
        private static final int MOST = 8, MARKS = 4, MOST_STANDING = 20;
        private static final int[] LIST = {1, 2, 4, 5, 6, 10, 12, 60};
        private static final int ROWS = 4096;

        private final int[][] excess = new int[MOST][MARKS];
        private int size;
        private final int[] picks = new int[MARKS];
        private final int[] firstPicks = new int[MARKS];
        private final int[] seen = new int[MARKS];
        private int fitting;

        int size() {
            return size;
        }

        int add(int items, int total) {
            if (!areStanding(items) || !areStanding(total)) return BAD;
            if (size >= MOST) return FULL;
            for (int m = 0; m < MARKS; m++) excess[size][m] = standing(items, m) - standing(total, m);
            size++;
            return size - 1;
        }

        private static boolean areStanding(int packed) {
            if (packed < 0 || packed >> 5 * MARKS != 0) return false;
            for (int m = 0; m < MARKS; m++) {
                if (standing(packed, m) > MOST_STANDING) return false;
            }
            return true;
        }

        private static int standing(int packed, int mark) {
            return packed >> 5 * mark & 31;
        }

        int tellFits(int what) {
            if (what < 0 || what > MARKS) return BAD;
            search();
            if (what == 0) return fitting;
            return fitting == 0 ? NONE : valueOf(firstPicks[what - 1]);
        }

        int valuesSeen(int mark) {
            if (mark < 0 || mark >= MARKS) return BAD;
            search();
            return Integer.bitCount(seen[mark]);
        }

        private static int valueOf(int pick) {
            return pick >= 0 && pick < LIST.length ? LIST[pick] : 0;
        }

        private void search() {
            fitting = 0;
            for (int m = 0; m < MARKS; m++) seen[m] = 0;
            for (int r = 0; r < ROWS; r++) {
                // MARK 0 has the highest figure, so that rows come in their order.
                for (int m = 0; m < MARKS; m++) picks[m] = r >> 3 * (MARKS - 1 - m) & 7;
                if (areUnlike() && doAddUp()) keep();
            }
        }

        private boolean areUnlike() {
            int taken = 0;
            for (int m = 0; m < MARKS; m++) taken |= 1 << picks[m];
            return Integer.bitCount(taken) == MARKS;
        }

        private boolean doAddUp() {
            for (int a = 0; a < size; a++) {
                int sum = 0;
                for (int m = 0; m < MARKS; m++) sum += excess[a][m] * valueOf(picks[m]);
                if (sum != 0) return false;
            }
            return true;
        }

        private void keep() {
            for (int m = 0; m < MARKS; m++) {
                if (fitting == 0) firstPicks[m] = picks[m];
                seen[m] |= 1 << picks[m];
            }
            fitting++;
        }
    }

    /** NAMES, dragged along TEXTS. */
    private static final class Names {
        private static final int MOST = 4, MOST_SOUNDS = 8;

        private final Texts texts;
        private final int[][] sounds = new int[MOST][MOST_SOUNDS];
        private final int[] lengths = new int[MOST];
        private int size;

        Names(Texts texts) {
            this.texts = texts;
        }

        int size() {
            return size;
        }

        static boolean areSounds(int n, int most, int packed) {
            return n >= 1 && n <= most && packed >= 0 && packed >> 2 * n == 0;
        }

        int add(int n, int packed) {
            if (!areSounds(n, MOST_SOUNDS, packed)) return BAD;
            if (size >= MOST) return FULL;
            for (int p = 0; p < n; p++) sounds[size][p] = packed >> 2 * (n - 1 - p) & 3;
            lengths[size] = n;
            size++;
            return size - 1;
        }

        private boolean isName(int a) {
            return a >= 0 && a < size;
        }

        int drag(int a, int t, int what) {
            if (!isName(a) || !texts.isText(t) || what < 0 || what > 2) return BAD;
            int found = 0;
            int first = NONE;
            int last = NONE;
            for (int c = 0; c < texts.lengthOf(t); c++) {
                if (!fits(a, t, c)) continue;
                if (found == 0) first = c;
                last = c;
                found++;
            }
            if (what == 0) return found;
            return what == 1 ? first : last;
        }

        int pairs(int a, int t, int b, int u) {
            if (!isName(a) || !isName(b) || !texts.isText(t) || !texts.isText(u)) return BAD;
            int found = 0;
            for (int c = 0; c < texts.lengthOf(t); c++) {
                if (!fits(a, t, c)) continue;
                for (int d = 0; d < texts.lengthOf(u); d++) {
                    if (fits(b, u, d) && agree(a, t, c, b, u, d)) found++;
                }
            }
            return found;
        }

        private boolean fits(int a, int t, int c) {
            for (int p = 0; p < lengths[a]; p++) {
                if (texts.signAt(t, c + p) < 0) return false;
            }
            return agree(a, t, c, a, t, c);
        }

        private boolean agree(int a, int t, int c, int b, int u, int d) {
            for (int p = 0; p < lengths[a]; p++) {
                for (int q = 0; q < lengths[b]; q++) {
                    boolean signsAlike = texts.signAt(t, c + p) == texts.signAt(u, d + q);
                    boolean soundsAlike = sounds[a][p] == sounds[b][q];
                    if (signsAlike != soundsAlike) return false;
                }
            }
            return true;
        }
    }

    /** WORDS of the tongue, TABLES of SOUNDS, and what is READ by them. */
    private static final class Tongue {
        private static final int MOST = 12, MOST_SOUNDS = 6, MOST_TABLED = 6;
        private static final int MOST_SHUFFLES = 720;
        private static final int KEYS = 2 << 2 * MOST_SOUNDS;

        private final Texts texts;
        // A bit for each row of SOUNDS that may be a WORD, by its key.
        private final long[] words = new long[KEYS / 64];
        private int size;
        private final int[] tabled = new int[MOST_TABLED];
        private int tabledSize;
        private final int[] times = new int[Forms.MOST];
        // Each SIGN's place in the TABLE, NONE if it has none.
        private final int[] places = new int[Forms.MOST];
        // The WORDS of some TEXTS that a TABLE can sound, by places in the TABLE.
        private final int[][] rows = new int[Texts.MOST_WORDS][MOST_SOUNDS];
        private final int[] rowLengths = new int[Texts.MOST_WORDS];
        private int rowSize;
        private final int[] sounds = new int[MOST_TABLED];
        private final int[] bestSounds = new int[MOST_TABLED];
        private int bestRead;
        private int bestTables;
        private final int[] order = new int[MOST_TABLED];

        Tongue(Texts texts) {
            this.texts = texts;
        }

        int size() {
            return size;
        }

        int add(int n, int packed) {
            if (!Names.areSounds(n, MOST_SOUNDS, packed) || isWord(keyOf(n, packed))) return BAD;
            if (size >= MOST) return FULL;
            int key = keyOf(n, packed);
            words[key >> 6] |= 1L << (key & 63);
            size++;
            return size - 1;
        }

        // A 1 ahead of the SOUNDS keeps rows of different lengths apart.
        private static int keyOf(int n, int packed) {
            return 1 << 2 * n | packed;
        }

        private boolean isWord(int key) {
            return key >= 0 && key < KEYS && (words[key >> 6] >> (key & 63) & 1) == 1;
        }

        int signAt(int i) {
            if (i < 0 || i >= MOST_TABLED) return BAD;
            rank();
            return i < tabledSize ? tabled[i] : NONE;
        }

        int readWith(int bits, int table) {
            rank();
            if (!texts.areTexts(bits) || table < 0 || table >= tables()) return BAD;
            collect(bits);
            spread(table);
            return readNow();
        }

        int tellBest(int bits, int what) {
            if (!texts.areTexts(bits) || what < 0 || what > 2) return BAD;
            rank();
            collect(bits);
            searchBest();
            if (what == 0) return packBest();
            return what == 1 ? bestRead : bestTables;
        }

        int holdAgainst(int bits, int others, int what) {
            if (!texts.areTexts(bits) || !texts.areTexts(others) || (bits & others) != 0) return BAD;
            if (what < 0 || what > 2) return BAD;
            rank();
            collect(bits);
            searchBest();
            collect(others);
            for (int i = 0; i < tabledSize; i++) sounds[i] = bestSounds[i];
            int read = readNow();
            if (what == 0) return read;
            return tellShuffles(read, what);
        }

        private int tables() {
            return 1 << 2 * tabledSize;
        }

        private void rank() {
            tabledSize = 0;
            for (int s = 0; s < Forms.MOST; s++) {
                places[s] = NONE;
                times[s] = texts.timesOf(s);
            }
            for (int i = 0; i < MOST_TABLED; i++) {
                int sign = mostFrequentLeft();
                if (sign < 0 || sign >= Forms.MOST) return;
                places[sign] = i;
                tabled[i] = sign;
                tabledSize++;
            }
        }

        private int mostFrequentLeft() {
            int found = NONE;
            int most = 0;
            for (int s = 0; s < Forms.MOST; s++) {
                if (places[s] != NONE || times[s] <= most) continue;
                most = times[s];
                found = s;
            }
            return found;
        }

        private void collect(int bits) {
            rowSize = 0;
            for (int w = 0; w < texts.words(); w++) {
                if ((bits >> texts.textOfWord(w) & 1) == 1) collectWord(w);
            }
        }

        private void collectWord(int w) {
            int length = texts.lengthOfWord(w);
            if (length > MOST_SOUNDS || rowSize >= Texts.MOST_WORDS) return;
            for (int i = 0; i < length; i++) {
                int place = placeOf(texts.signOfWord(w, i));
                if (place < 0) return;
                rows[rowSize][i] = place;
            }
            rowLengths[rowSize] = length;
            rowSize++;
        }

        private int placeOf(int sign) {
            return sign >= 0 && sign < Forms.MOST ? places[sign] : NONE;
        }

        private void spread(int table) {
            for (int i = 0; i < tabledSize; i++) sounds[i] = table >> 2 * i & 3;
        }

        private int readNow() {
            int read = 0;
            for (int r = 0; r < rowSize; r++) {
                int packed = 0;
                for (int i = 0; i < rowLengths[r]; i++) packed = packed << 2 | sounds[rows[r][i]];
                if (isWord(keyOf(rowLengths[r], packed))) read++;
            }
            return read;
        }

        private void searchBest() {
            bestRead = -1;
            bestTables = 0;
            for (int n = 0; n < tables(); n++) {
                // SIGN 0 has the highest figure here, so that the first TABLE found is the least SIGN by SIGN.
                for (int i = 0; i < tabledSize; i++) sounds[i] = n >> 2 * (tabledSize - 1 - i) & 3;
                weigh(readNow());
            }
        }

        private void weigh(int read) {
            if (read > bestRead) {
                bestRead = read;
                bestTables = 0;
                for (int i = 0; i < tabledSize; i++) bestSounds[i] = sounds[i];
            }
            if (read == bestRead) bestTables++;
        }

        private int packBest() {
            int packed = 0;
            for (int i = 0; i < tabledSize; i++) packed |= bestSounds[i] << 2 * i;
            return packed;
        }

        private int tellShuffles(int read, int what) {
            int shuffles = 0;
            int asGood = 0;
            for (int i = 0; i < tabledSize; i++) order[i] = i;
            for (int n = 0; n < MOST_SHUFFLES; n++) {
                for (int i = 0; i < tabledSize; i++) sounds[i] = bestSounds[order[i]];
                shuffles++;
                if (readNow() >= read) asGood++;
                if (!nextOrder()) break;
            }
            return what == 1 ? asGood : shuffles;
        }

        private boolean nextOrder() {
            int turn = tabledSize - 2;
            while (turn >= 0 && order[turn] > order[turn + 1]) turn--;
            if (turn < 0) return false;
            int swap = tabledSize - 1;
            while (swap > turn && order[swap] < order[turn]) swap--;
            exchange(turn, swap);
            for (int i = turn + 1, j = tabledSize - 1; i < j; i++, j--) exchange(i, j);
            return true;
        }

        private void exchange(int i, int j) {
            int kept = order[i];
            order[i] = order[j];
            order[j] = kept;
        }
    }

    /** THE TAPE, read TOKEN by TOKEN. */
    private static final class Tape {
        static final int BYTES = 160;
        static final int STRANGE = 0, OVER = 1, KIND = 2, ON = 3, NUMBER = 4, COMMA = 5, SEMICOLON = 6;
        private static final int KINDS = 5, FIGURES = 2;

        private final byte[] bytes = new byte[BYTES];
        private int length;
        private int place;
        private int start;
        private int value;

        int length() {
            return length;
        }

        int append(long v) {
            if (length > BYTES - 8) return FULL;
            for (int i = 0; i < 8; i++) bytes[length + i] = (byte) (v >> 8 * (7 - i));
            length += 8;
            return length;
        }

        int cut(int n) {
            if (n < 0 || n > length) return BAD;
            int had = length;
            length = n;
            return had;
        }

        void rewind() {
            place = 0;
        }

        /** Where the TOKEN read last begins. */
        int start() {
            return start;
        }

        /** The kind or the number that the TOKEN read last tells. */
        int value() {
            return value;
        }

        int nextToken() {
            while (place < length && bytes[place] == ' ') place++;
            start = place;
            if (place >= length) return OVER;
            byte first = bytes[place];
            if (isLetter(first)) return takeName();
            if (isFigure(first)) return takeNumber();
            place++;
            if (first == ',') return COMMA;
            return first == ';' ? SEMICOLON : STRANGE;
        }

        private static boolean isLetter(byte b) {
            return b >= 'a' && b <= 'z';
        }

        private static boolean isFigure(byte b) {
            return b >= '0' && b <= '9';
        }

        private int takeName() {
            while (place < length && isLetter(bytes[place])) place++;
            if (reads("on")) return ON;
            for (int kind = 0; kind < KINDS; kind++) {
                if (!reads(kindName(kind))) continue;
                value = kind;
                return KIND;
            }
            return STRANGE;
        }

        private static String kindName(int kind) {
            switch (kind) {
                case 0: return "sign";
                case 1: return "sound";
                case 2: return "word";
                case 3: return "name";
                default: return "tongue";
            }
        }

        private boolean reads(String name) {
            if (place - start != name.length()) return false;
            for (int i = 0; i < name.length(); i++) {
                if (bytes[start + i] != name.charAt(i)) return false;
            }
            return true;
        }

        private int takeNumber() {
            value = 0;
            while (place < length && isFigure(bytes[place])) {
                value = value * 10 + (bytes[place] - '0');
                place++;
            }
            return place - start > FIGURES ? STRANGE : NUMBER;
        }
    }

    /** CLAIMS, what hangs on which, and the days on which they are known. */
    private static final class Claims {
        private static final int MOST = 20, LAST_DAY = 99;
        private static final int NO_TOKEN = 1, MISPLACED = 2, NO_CLAIM = 3, CLAIMED = 4, TOO_MANY = 5;
        // What may stand next.
        private static final int KIND = 0, ABOUT = 1, ON_OR_STOP = 2, HUNG = 3, MORE_OR_STOP = 4;

        private final Tape tape;
        private final int[] kinds = new int[MOST];
        private final int[] numbers = new int[MOST];
        private final int[] came = new int[MOST];
        private final int[] gone = new int[MOST];
        private final int[] hangsOn = new int[MOST];
        private final int[] depths = new int[MOST];
        private int size;
        // CLAIMS of the text that is being read stand behind the others, up to here; they come when all of it is read.
        private int told;
        private int awaited;
        private int fault;
        private int day;

        Claims(Tape tape) {
            this.tape = tape;
        }

        int size() {
            return size;
        }

        int latestFault() {
            return fault;
        }

        int today() {
            return day;
        }

        int withdrawn() {
            int found = 0;
            for (int k = 0; k < size; k++) {
                if (gone[k] != NONE) found++;
            }
            return found;
        }

        int take() {
            tape.rewind();
            told = size;
            awaited = KIND;
            fault = 0;
            // Each TOKEN but the end has a byte of its own.
            for (int step = 0; step <= Tape.BYTES; step++) {
                int token = tape.nextToken();
                if (token == Tape.OVER && awaited == KIND) break;
                fault = follow(token, tape.value());
                if (fault != 0) break;
            }
            tape.cut(0);
            if (fault != 0) return TOLD - tape.start();
            int coming = told - size;
            size = told;
            return coming;
        }

        private int follow(int token, int value) {
            if (token == Tape.STRANGE) return NO_TOKEN;
            switch (awaited) {
                case KIND: return token == Tape.KIND ? open(value) : MISPLACED;
                case ABOUT: return token == Tape.NUMBER ? tellAbout(value) : MISPLACED;
                case HUNG: return token == Tape.NUMBER ? hang(value) : MISPLACED;
                default: return goOnOrStop(token);
            }
        }

        private int goOnOrStop(int token) {
            if (token == (awaited == ON_OR_STOP ? Tape.ON : Tape.COMMA)) {
                awaited = HUNG;
                return 0;
            }
            if (token != Tape.SEMICOLON) return MISPLACED;
            told++;
            awaited = KIND;
            return 0;
        }

        private int open(int kind) {
            if (told >= MOST) return TOO_MANY;
            kinds[told] = kind;
            came[told] = day;
            gone[told] = NONE;
            hangsOn[told] = 0;
            depths[told] = 0;
            awaited = ABOUT;
            return 0;
        }

        private int tellAbout(int number) {
            for (int k = 0; k < told; k++) {
                if (gone[k] == NONE && kinds[k] == kinds[told] && numbers[k] == number) return CLAIMED;
            }
            numbers[told] = number;
            awaited = ON_OR_STOP;
            return 0;
        }

        private int hang(int k) {
            if (k < 0 || k >= told || gone[k] != NONE || hangs(told, k)) return NO_CLAIM;
            hangsOn[told] |= 1 << k;
            depths[told] = Math.max(depths[told], depths[k] + 1);
            awaited = MORE_OR_STOP;
            return 0;
        }

        private boolean hangs(int k, int on) {
            return (hangsOn[k] >> on & 1) == 1;
        }

        private boolean isClaim(int k) {
            return k >= 0 && k < size;
        }

        int tell(int k, int what) {
            if (!isClaim(k)) return BAD;
            switch (what) {
                case 0: return kinds[k];
                case 1: return numbers[k];
                case 2: return came[k];
                case 3: return gone[k];
                case 4: return Integer.bitCount(hangsOn[k]);
                case 5: return Integer.bitCount(hangingOn(k) & ~(1 << k));
                case 6: return depths[k];
                default: return BAD;
            }
        }

        int takeBack(int k) {
            if (!isClaim(k)) return BAD;
            if (gone[k] != NONE) return STATE;
            int all = hangingOn(k);
            for (int j = k; j < size; j++) {
                if ((all >> j & 1) == 1) gone[j] = day;
            }
            return Integer.bitCount(all);
        }

        // A CLAIM hangs on earlier ones alone, so one way through them finds all; the bits of k and of
        // those that hang on it and are not withdrawn.
        private int hangingOn(int k) {
            int all = 1 << k;
            for (int j = k + 1; j < size; j++) {
                if (gone[j] == NONE && (hangsOn[j] & all) != 0) all |= 1 << j;
            }
            return all;
        }

        int moveDay(int d) {
            if (d < day || d > LAST_DAY) return BAD;
            int was = day;
            day = d;
            return was;
        }

        int knownOn(int d, int what) {
            if (d < 0 || d > LAST_DAY || what < 0 || what > 2) return BAD;
            int found = 0;
            int first = NONE;
            int latest = NONE;
            for (int k = 0; k < size; k++) {
                if (!isKnown(k, d)) continue;
                if (found == 0) first = k;
                latest = k;
                found++;
            }
            if (what == 0) return found;
            return what == 1 ? first : latest;
        }

        private boolean isKnown(int k, int d) {
            return came[k] <= d && (gone[k] == NONE || gone[k] > d);
        }
    }

    /** SHEETS, whose FAULTS are told as the machine would find them. */
    private static final class Sheets {
        private static final int MOST = 4, LANES = 3, CELLS = 60;

        private final int[] lanes = new int[MOST];
        private final int[] lengths = {NONE, NONE, NONE, NONE};
        private final int[][] cells = new int[MOST][CELLS];

        static boolean isSheet(int k) {
            return k >= 0 && k < MOST;
        }

        static boolean isLane(int lane) {
            return lane >= 0 && lane < LANES;
        }

        int lengthOf(int k) {
            return isSheet(k) ? lengths[k] : NONE;
        }

        int renew(int k, int lane, int n) {
            if (!isSheet(k) || !isLane(lane) || n > CELLS) return BAD;
            if (n < 0) return TOLD - SIZE_FAULT;
            lanes[k] = lane;
            lengths[k] = n;
            for (int i = 0; i < CELLS; i++) cells[k][i] = 0;
            return 1;
        }

        int put(int k, int i, int v) {
            if (!isSheet(k)) return BAD;
            if (lengths[k] == NONE) return TOLD - NULL_FAULT;
            if (!hasCell(k, i)) return TOLD - INDEX_FAULT;
            cells[k][i] = lowestBits(lanes[k], v);
            return 1;
        }

        private static int lowestBits(int lane, int v) {
            switch (lane) {
                case 0: return (byte) v;
                case 1: return (short) v;
                default: return v;
            }
        }

        /** The FAULT of taking a SHEET as of a lane, 0 if there is none. */
        int faultAs(int k, int lane) {
            if (lengthOf(k) == NONE) return NULL_FAULT;
            return lanes[k] == lane ? 0 : CAST_FAULT;
        }

        boolean hasCell(int k, int i) {
            return isSheet(k) && i >= 0 && i < lengths[k] && i < CELLS;
        }

        int cellOf(int k, int i) {
            return hasCell(k, i) ? cells[k][i] : 0;
        }
    }
}
