import java.math.BigInteger;
import java.util.ArrayList;
import java.util.Arrays;
import java.util.HashMap;
import java.util.HashSet;
import java.util.LinkedHashSet;
import java.util.List;
import java.util.Map;
import java.util.Set;
import java.util.TreeMap;
import java.util.TreeSet;

/**
 * The document once more, slowly and word by word, in another way than the class goes (sets, lists, all
 * possibilities tried), so that both can be held against each other.
 */
final class Model {
    private static final int BAD = -1, STATE = -2, FULL = -3, NONE = -4;
    private static final int[] VALUES = {1, 2, 4, 5, 6, 10, 12, 60};
    private static final List<String> KINDS = List.of("sign", "sound", "word", "name", "tongue");

    private record Claim(int kind, int number, int came, List<Integer> on) { }

    private final List<Integer> forms = new ArrayList<>();
    private int likeness = 1;
    private final Map<Integer, Integer> signsNow = new HashMap<>();
    private final List<List<Integer>> texts = new ArrayList<>();
    private final Map<Set<Integer>, Integer> told = new HashMap<>();
    private final List<int[][]> accounts = new ArrayList<>();
    private final List<List<Integer>> names = new ArrayList<>();
    private final List<List<Integer>> words = new ArrayList<>();
    private String tape = "";
    private int fault;
    private List<Claim> claims = new ArrayList<>();
    private final Map<Integer, Integer> withdrawn = new TreeMap<>();
    private int day;
    private final Object[] sheets = new Object[4];

    // ---- forms, signs

    int form(int features) {
        if (features < 0 || features > 4095) return BAD;
        if (forms.size() == 24) return FULL;
        forms.add(features);
        signsNow.clear();
        return forms.size() - 1;
    }

    int likeness(int v) {
        if (v < 0 || v > 12) return BAD;
        int was = likeness;
        likeness = v;
        signsNow.clear();
        return was;
    }

    private Set<Integer> group(int form, int likeness) {
        Set<Integer> reached = new TreeSet<>(Set.of(form));
        for (boolean grown = true; grown; ) {
            grown = false;
            for (int f = 0; f < forms.size(); f++) {
                for (int g : List.copyOf(reached)) {
                    if (Integer.bitCount(forms.get(f) ^ forms.get(g)) <= likeness) grown |= reached.add(f);
                }
            }
        }
        return reached;
    }

    private int signOf(int form) {
        return signsNow.computeIfAbsent(form, f -> ((TreeSet<Integer>) group(f, likeness)).first());
    }

    private boolean noForm(int f) {
        return f < 0 || f >= forms.size();
    }

    private boolean noSign(int s) {
        return noForm(s) || signOf(s) != s;
    }

    int sign(int form) {
        return noForm(form) ? BAD : signOf(form);
    }

    int signs(int what) {
        Set<Set<Integer>> groups = new LinkedHashSet<>();
        for (int f = 0; f < forms.size(); f++) groups.add(group(f, likeness));
        int most = 0;
        int greatest = NONE;
        for (Set<Integer> g : groups) {
            if (g.size() > most) {
                most = g.size();
                greatest = ((TreeSet<Integer>) g).first();
            }
        }
        if (what == 0) return groups.size();
        if (what == 1) return most;
        if (what == 2) return greatest;
        if (what != 3) return BAD;
        int v = 0;
        while (!forms.isEmpty() && group(0, v).size() < forms.size()) v++;
        return v;
    }

    // ---- texts

    int text(int k, int lane, int f, int n) {
        if (k < 0 || k > 3 || lane < 0 || lane > 2 || n < 1 || n > 24) return BAD;
        List<Integer> cells = new ArrayList<>();
        try {
            Object sheet = sheets[k];
            if (sheet == null) throw new NullPointerException();
            byte[] bytes = lane == 0 ? (byte[]) sheet : null;
            short[] shorts = lane == 1 ? (short[]) sheet : null;
            int[] ints = lane == 2 ? (int[]) sheet : null;
            for (int i = 0; i < n; i++) {
                int cell = lane == 0 ? bytes[f + i] : lane == 1 ? shorts[f + i] : ints[f + i];
                if (cell < -2 || cell >= forms.size()) return -20 - i;
                cells.add(cell);
            }
        } catch (NullPointerException e) {
            return -11;
        } catch (ArrayIndexOutOfBoundsException e) {
            return -12;
        } catch (ClassCastException e) {
            return -13;
        }
        if (texts.size() == 8) return FULL;
        texts.add(cells);
        return texts.size() - 1;
    }

    int drop() {
        if (texts.isEmpty()) return NONE;
        texts.remove(texts.size() - 1);
        return texts.size();
    }

    private boolean noText(int t) {
        return t < 0 || t >= texts.size();
    }

    private List<Integer> inSigns(int t) {
        return texts.get(t).stream().map(c -> c < 0 ? c : signOf(c)).toList();
    }

    private List<List<Integer>> wordsOf(int t) {
        List<List<Integer>> found = new ArrayList<>();
        List<Integer> word = new ArrayList<>();
        List<Integer> cells = new ArrayList<>(inSigns(t));
        cells.add(-2);
        for (int c : cells) {
            if (c != -2) {
                word.add(c);
            } else {
                if (!word.isEmpty()) found.add(word);
                word = new ArrayList<>();
            }
        }
        return found;
    }

    private List<List<Integer>> wholeWordsOf(int t) {
        return wordsOf(t).stream().filter(w -> !w.contains(-1)).toList();
    }

    private List<List<Integer>> wholeWords(int bits) {
        List<List<Integer>> found = new ArrayList<>();
        for (int t = 0; t < texts.size(); t++) {
            if ((bits >> t & 1) == 1) found.addAll(wholeWordsOf(t));
        }
        return found;
    }

    int textOf(int t, int what) {
        if (noText(t)) return -10;
        List<Integer> cells = inSigns(t);
        if (what == 0) return cells.size();
        if (what == 1) return (int) cells.stream().filter(c -> c >= 0).count();
        if (what == 2) return (int) cells.stream().filter(c -> c == -1).count();
        if (what == 3) return wordsOf(t).size();
        if (what == 4) return wholeWordsOf(t).size();
        if (what == 5) return wholeWordsOf(t).stream().mapToInt(List::size).max().orElse(0);
        if (what >= 10 && what - 10 < cells.size()) return cells.get(what - 10);
        return -10;
    }

    private int times(int sign) {
        int found = 0;
        for (int t = 0; t < texts.size(); t++) found += (int) inSigns(t).stream().filter(c -> c == sign).count();
        return found;
    }

    private List<List<Integer>> neighbours() {
        List<List<Integer>> found = new ArrayList<>();
        for (int t = 0; t < texts.size(); t++) {
            List<Integer> cells = inSigns(t);
            for (int c = 0; c + 1 < cells.size(); c++) {
                if (cells.get(c) >= 0 && cells.get(c + 1) >= 0) found.add(cells.subList(c, c + 2));
            }
        }
        return found;
    }

    private int allTimes() {
        int found = 0;
        for (int f = 0; f < forms.size(); f++) found += times(f);
        return found;
    }

    int counted(int sign) {
        return noSign(sign) ? BAD : times(sign);
    }

    int beside(int a, int b) {
        if (noSign(a) || noSign(b)) return BAD;
        return (int) neighbours().stream().filter(p -> p.equals(List.of(a, b))).count();
    }

    long chance(int a, int b, int what) {
        if (noSign(a) || noSign(b) || what < 0 || what > 1) return BAD;
        long all = allTimes();
        if (all < 2) return what;
        BigInteger above = BigInteger.valueOf(neighbours().size())
                .multiply(BigInteger.valueOf(times(a)))
                .multiply(BigInteger.valueOf(a == b ? times(a) - 1 : times(b)));
        BigInteger below = BigInteger.valueOf(all).multiply(BigInteger.valueOf(all - 1));
        BigInteger shared = above.gcd(below);
        return (what == 0 ? above : below).divide(shared).longValueExact();
    }

    int runs(int what) {
        int beginning = 0;
        int ending = 0;
        for (int s = 0; s < forms.size(); s++) {
            int sign = s;
            int begun = (int) wholeWords(-1).stream().filter(w -> w.get(0) == sign).count();
            int ended = (int) wholeWords(-1).stream().filter(w -> w.get(w.size() - 1) == sign).count();
            beginning += begun * begun;
            ending += ended * ended;
        }
        if (what == 0) return ending > beginning ? 1 : ending < beginning ? -1 : 0;
        return what == 1 ? beginning : what == 2 ? ending : -10;
    }

    // ---- grids

    private int kin(int a, int b) {
        Set<List<Integer>> rows = new HashSet<>(wholeWords(-1));
        int found = 0;
        for (List<Integer> row : rows) {
            int n = row.size();
            if (n < 2 || row.get(n - 1) != a) continue;
            List<Integer> other = new ArrayList<>(row);
            other.set(n - 1, b);
            if (rows.contains(other)) found++;
        }
        return found;
    }

    private int distance(int a, int b) {
        int most = 0;
        for (Map.Entry<Set<Integer>, Integer> e : told.entrySet()) {
            List<Integer> pair = List.copyOf(e.getKey());
            Set<Integer> both = Set.of(signOf(pair.get(0)), signOf(pair.get(1)).intValue() == signOf(pair.get(0))
                    ? -1 : signOf(pair.get(1)));
            if (both.equals(Set.of(a, b))) most = Math.max(most, e.getValue());
        }
        return most;
    }

    private Integer signOf(Integer form) {
        return signOf(form.intValue());
    }

    int akin(int a, int b) {
        return noSign(a) || noSign(b) || a == b ? BAD : kin(a, b);
    }

    int apart(int a, int b, int v) {
        if (noForm(a) || noForm(b) || a == b || v < 0 || v > 9) return BAD;
        Integer was = told.put(Set.of(a, b), v);
        return was == null ? 0 : was;
    }

    int grid(int rows, int what) {
        if (rows < 1 || rows > 3) return BAD;
        List<Integer> all = new ArrayList<>();
        for (int s = 0; s < forms.size(); s++) {
            if (!noSign(s)) all.add(s);
        }
        List<Integer> seated = new ArrayList<>();
        for (int s : all) {
            boolean bound = false;
            for (int o : all) bound |= o != s && kin(s, o) + distance(s, o) > 0;
            if (bound && seated.size() < 8) seated.add(s);
        }
        int n = seated.size();
        int[][] kin = new int[n][n];
        int[][] far = new int[n][n];
        for (int i = 0; i < n; i++) {
            for (int j = 0; j < i; j++) {
                kin[i][j] = kin(seated.get(i), seated.get(j));
                far[i][j] = distance(seated.get(i), seated.get(j));
            }
        }
        int least = Integer.MAX_VALUE;
        int[] found = new int[n];
        int ways = 1;
        for (int i = 0; i < n; i++) ways *= rows;
        for (int way = 0; way < ways; way++) {
            int[] row = new int[n];
            for (int i = n - 1, rest = way; i >= 0; i--, rest /= rows) row[i] = rest % rows;
            int quarrel = 0;
            for (int i = 0; i < n; i++) {
                for (int j = 0; j < i; j++) quarrel += row[i] == row[j] ? far[i][j] : kin[i][j];
            }
            if (quarrel < least) {
                least = quarrel;
                found = row;
            }
        }
        if (what == 0) return least;
        if (what == 1) return n;
        if (what >= 10 && what < 10 + n) return seated.get(what - 10);
        if (what >= 30 && what < 30 + n) return found[what - 30];
        return BAD;
    }

    // ---- numbers

    int account(int items, int total) {
        int[][] both = new int[2][4];
        for (int m = 0; m < 4; m++) {
            both[0][m] = items >>> 5 * m & 31;
            both[1][m] = total >>> 5 * m & 31;
            if (both[0][m] > 20 || both[1][m] > 20) return BAD;
        }
        if (items < 0 || total < 0 || items > 0xfffff || total > 0xfffff) return BAD;
        if (accounts.size() == 8) return FULL;
        accounts.add(both);
        return accounts.size() - 1;
    }

    private List<List<Integer>> rowsThatFit() {
        List<List<Integer>> rows = new ArrayList<>();
        for (int a : VALUES) {
            for (int b : VALUES) {
                for (int c : VALUES) {
                    for (int d : VALUES) {
                        List<Integer> row = List.of(a, b, c, d);
                        if (new HashSet<>(row).size() == 4 && accounts.stream().allMatch(x -> addsUp(x, row))) {
                            rows.add(row);
                        }
                    }
                }
            }
        }
        return rows;
    }

    private static boolean addsUp(int[][] account, List<Integer> row) {
        int items = 0;
        int total = 0;
        for (int m = 0; m < 4; m++) {
            items += account[0][m] * row.get(m);
            total += account[1][m] * row.get(m);
        }
        return items == total;
    }

    int values(int what) {
        if (what < 0 || what > 4) return BAD;
        List<List<Integer>> rows = rowsThatFit();
        if (what == 0) return rows.size();
        return rows.isEmpty() ? NONE : rows.get(0).get(what - 1);
    }

    int sure(int mark) {
        if (mark < 0 || mark > 3) return BAD;
        return (int) rowsThatFit().stream().map(r -> r.get(mark)).distinct().count();
    }

    // ---- names, sounds

    private static List<Integer> sounds(int n, int most, int packed) {
        if (n < 1 || n > most || packed < 0 || packed >= Math.pow(4, n)) return null;
        List<Integer> row = new ArrayList<>();
        for (int p = 0; p < n; p++, packed /= 4) row.add(0, packed % 4);
        return row;
    }

    int name(int n, int packed) {
        List<Integer> row = sounds(n, 8, packed);
        if (row == null) return BAD;
        if (names.size() == 4) return FULL;
        names.add(row);
        return names.size() - 1;
    }

    private boolean noName(int a) {
        return a < 0 || a >= names.size();
    }

    /** For each place where the NAME FITS the SIGNS that stand there, by places. */
    private TreeMap<Integer, List<Integer>> fitting(int a, int t) {
        TreeMap<Integer, List<Integer>> found = new TreeMap<>();
        int n = names.get(a).size();
        List<Integer> cells = inSigns(t);
        for (int c = 0; c + n <= cells.size(); c++) {
            List<Integer> there = cells.subList(c, c + n);
            if (there.stream().allMatch(s -> s >= 0) && isOneToOne(there, names.get(a))) found.put(c, there);
        }
        return found;
    }

    private static boolean isOneToOne(List<Integer> signs, List<Integer> sounds) {
        Map<Integer, Integer> soundOf = new HashMap<>();
        Map<Integer, Integer> signOf = new HashMap<>();
        for (int i = 0; i < signs.size(); i++) {
            Integer sound = soundOf.putIfAbsent(signs.get(i), sounds.get(i));
            Integer sign = signOf.putIfAbsent(sounds.get(i), signs.get(i));
            if (sound != null && !sound.equals(sounds.get(i))) return false;
            if (sign != null && !sign.equals(signs.get(i))) return false;
        }
        return true;
    }

    int dragged(int a, int t, int what) {
        if (noName(a) || noText(t) || what < 0 || what > 2) return BAD;
        TreeMap<Integer, List<Integer>> found = fitting(a, t);
        if (what == 0) return found.size();
        if (found.isEmpty()) return NONE;
        return what == 1 ? found.firstKey() : found.lastKey();
    }

    int together(int a, int t, int b, int u) {
        if (noName(a) || noName(b) || noText(t) || noText(u)) return BAD;
        List<Integer> sounds = new ArrayList<>(names.get(a));
        sounds.addAll(names.get(b));
        int found = 0;
        for (List<Integer> here : fitting(a, t).values()) {
            for (List<Integer> there : fitting(b, u).values()) {
                List<Integer> signs = new ArrayList<>(here);
                signs.addAll(there);
                if (isOneToOne(signs, sounds)) found++;
            }
        }
        return found;
    }

    int word(int n, int packed) {
        List<Integer> row = sounds(n, 6, packed);
        if (row == null || words.contains(row)) return BAD;
        if (words.size() == 12) return FULL;
        words.add(row);
        return words.size() - 1;
    }

    private List<Integer> tabledSigns() {
        List<Integer> found = new ArrayList<>();
        for (int s = 0; s < forms.size(); s++) {
            if (times(s) > 0) found.add(s);
        }
        found.sort((a, b) -> times(a) != times(b) ? times(b) - times(a) : a - b);
        return found.subList(0, Math.min(6, found.size()));
    }

    int tabled(int i) {
        if (i < 0 || i > 5) return BAD;
        List<Integer> found = tabledSigns();
        return i < found.size() ? found.get(i) : NONE;
    }

    private int readBy(List<Integer> table, List<Integer> signs, List<List<Integer>> rows) {
        Map<Integer, Integer> soundOf = new HashMap<>();
        for (int i = 0; i < signs.size(); i++) soundOf.put(signs.get(i), table.get(i));
        int read = 0;
        for (List<Integer> row : rows) {
            List<Integer> sounded = new ArrayList<>();
            for (int s : row) sounded.add(soundOf.getOrDefault(s, -1));
            if (words.contains(sounded)) read++;
        }
        return read;
    }

    private static List<Integer> unpack(int table, int n) {
        List<Integer> sounds = new ArrayList<>();
        for (int i = 0; i < n; i++, table /= 4) sounds.add(table % 4);
        return sounds;
    }

    private boolean noTexts(int bits) {
        return bits < 0 || bits >= Math.pow(2, texts.size());
    }

    int read(int bits, int table) {
        List<Integer> signs = tabledSigns();
        if (noTexts(bits) || table < 0 || table >= Math.pow(4, signs.size())) return BAD;
        return readBy(unpack(table, signs.size()), signs, wholeWords(bits));
    }

    /** The best TABLE, its READ, how many have as much. */
    private int[] bestOf(int bits) {
        List<Integer> signs = tabledSigns();
        List<List<Integer>> rows = wholeWords(bits);
        int[] best = {0, -1, 0};
        List<Integer> bestSounds = List.of();
        for (int table = 0; table < Math.pow(4, signs.size()); table++) {
            List<Integer> sounds = unpack(table, signs.size());
            int read = readBy(sounds, signs, rows);
            if (read > best[1] || read == best[1] && isLess(sounds, bestSounds)) {
                best[0] = table;
                best[2] = read > best[1] ? 0 : best[2];
                best[1] = read;
                bestSounds = sounds;
            }
            if (read == best[1]) best[2]++;
        }
        return best;
    }

    private static boolean isLess(List<Integer> a, List<Integer> b) {
        return Arrays.compare(a.toArray(new Integer[0]), b.toArray(new Integer[0])) < 0;
    }

    int best(int bits, int what) {
        if (noTexts(bits) || what < 0 || what > 2) return BAD;
        return bestOf(bits)[what];
    }

    int judge(int bits, int others, int what) {
        if (noTexts(bits) || noTexts(others) || (bits & others) != 0 || what < 0 || what > 2) return BAD;
        List<Integer> signs = tabledSigns();
        List<Integer> sounds = unpack(bestOf(bits)[0], signs.size());
        List<List<Integer>> rows = wholeWords(others);
        int read = readBy(sounds, signs, rows);
        List<List<Integer>> shuffles = new ArrayList<>();
        shuffle(new ArrayList<>(), sounds, shuffles);
        if (what == 0) return read;
        if (what == 2) return shuffles.size();
        return (int) shuffles.stream().filter(s -> readBy(s, signs, rows) >= read).count();
    }

    private static void shuffle(List<Integer> taken, List<Integer> left, List<List<Integer>> all) {
        if (left.isEmpty()) all.add(List.copyOf(taken));
        for (int i = 0; i < left.size(); i++) {
            List<Integer> rest = new ArrayList<>(left);
            List<Integer> more = new ArrayList<>(taken);
            more.add(rest.remove(i));
            shuffle(more, rest, all);
        }
    }

    // ---- claims

    int feed(long v) {
        if (tape.length() + 8 > 160) return FULL;
        for (int i = 56; i >= 0; i -= 8) tape += (char) (v >>> i & 255);
        return tape.length();
    }

    int end(int n) {
        if (n < 0 || n > tape.length()) return BAD;
        int had = tape.length();
        tape = tape.substring(0, n);
        return had;
    }

    /** A FAULT found while reading, thrown where it is met. */
    private static final class Found extends RuntimeException {
        final int fault;
        final int place;

        Found(int fault, int place) {
            this.fault = fault;
            this.place = place;
        }
    }

    /** Reads by going down the grammar. */
    private final class Reader {
        private final String text;
        private int at;
        private int from;
        private String token;
        private final List<Claim> all = new ArrayList<>(claims);

        Reader(String text) {
            this.text = text;
        }

        /** The next TOKEN; empty at the end. */
        private void next() {
            while (at < text.length() && text.charAt(at) == ' ') at++;
            from = at;
            while (at < text.length() && isOneToken(text.substring(from, at + 1))) at++;
            token = text.substring(from, at);
            boolean known = token.equals("on") || KINDS.contains(token) || token.matches("[0-9]{1,2}|[;,]");
            if (from < text.length() && !known) throw new Found(1, from);
        }

        private boolean isOneToken(String s) {
            return s.matches("[a-z]+|[0-9]+|[;,]");
        }

        private int number() {
            next();
            if (!token.matches("[0-9]+")) throw new Found(2, from);
            return Integer.parseInt(token);
        }

        List<Claim> readAll() {
            for (next(); !token.isEmpty(); next()) claim();
            return all;
        }

        private void claim() {
            int kind = KINDS.indexOf(token);
            if (kind < 0) throw new Found(2, from);
            if (all.size() == 20) throw new Found(5, from);
            int number = number();
            for (int k = 0; k < all.size(); k++) {
                boolean same = all.get(k).kind == kind && all.get(k).number == number;
                if (same && !withdrawn.containsKey(k)) throw new Found(4, from);
            }
            List<Integer> on = new ArrayList<>();
            next();
            if (token.equals("on")) {
                do {
                    int k = number();
                    if (k >= all.size() || withdrawn.containsKey(k) || on.contains(k)) throw new Found(3, from);
                    on.add(k);
                    next();
                } while (token.equals(","));
            }
            if (!token.equals(";")) throw new Found(2, from);
            all.add(new Claim(kind, number, day, on));
        }
    }

    int claims() {
        String text = tape;
        tape = "";
        try {
            List<Claim> all = new Reader(text).readAll();
            int came = all.size() - claims.size();
            claims = all;
            fault = 0;
            return came;
        } catch (Found found) {
            fault = found.fault;
            return -10 - found.place;
        }
    }

    int fault() {
        return fault;
    }

    private boolean noClaim(int k) {
        return k < 0 || k >= claims.size();
    }

    private boolean hangs(int k, int on) {
        return claims.get(k).on.stream().anyMatch(o -> o == on || hangs(o, on));
    }

    private int depth(int k) {
        return claims.get(k).on.stream().mapToInt(o -> 1 + depth(o)).max().orElse(0);
    }

    private Set<Integer> hanging(int on) {
        Set<Integer> found = new TreeSet<>();
        for (int k = 0; k < claims.size(); k++) {
            if (!withdrawn.containsKey(k) && hangs(k, on)) found.add(k);
        }
        return found;
    }

    int claim(int k, int what) {
        if (noClaim(k)) return BAD;
        Claim c = claims.get(k);
        switch (what) {
            case 0: return c.kind;
            case 1: return c.number;
            case 2: return c.came;
            case 3: return withdrawn.getOrDefault(k, NONE);
            case 4: return c.on.size();
            case 5: return hanging(k).size();
            case 6: return depth(k);
            default: return BAD;
        }
    }

    int withdraw(int k) {
        if (noClaim(k)) return BAD;
        if (withdrawn.containsKey(k)) return STATE;
        Set<Integer> all = hanging(k);
        all.add(k);
        for (int c : all) withdrawn.put(c, day);
        return all.size();
    }

    int day(int d) {
        if (d < day || d > 99) return BAD;
        int was = day;
        day = d;
        return was;
    }

    int known(int d, int what) {
        if (d < 0 || d > 99 || what < 0 || what > 2) return BAD;
        TreeSet<Integer> found = new TreeSet<>();
        for (int k = 0; k < claims.size(); k++) {
            if (claims.get(k).came <= d && withdrawn.getOrDefault(k, 1000) > d) found.add(k);
        }
        if (what == 0) return found.size();
        if (found.isEmpty()) return NONE;
        return what == 1 ? found.first() : found.last();
    }

    // ---- sheets

    int sheet(int k, int lane, int n) {
        if (k < 0 || k > 3 || lane < 0 || lane > 2 || n > 60) return BAD;
        try {
            sheets[k] = lane == 0 ? new byte[n] : lane == 1 ? new short[n] : new int[n];
            return 1;
        } catch (NegativeArraySizeException e) {
            return -14;
        }
    }

    int lay(int k, int i, int v) {
        if (k < 0 || k > 3) return BAD;
        if (sheets[k] == null) return -11;
        try {
            if (sheets[k] instanceof byte[] bytes) bytes[i] = (byte) v;
            else if (sheets[k] instanceof short[] shorts) shorts[i] = (short) v;
            else ((int[]) sheets[k])[i] = v;
            return 1;
        } catch (ArrayIndexOutOfBoundsException e) {
            return -12;
        }
    }

    int count(int what) {
        switch (what) {
            case 0: return forms.size();
            case 1: return texts.size();
            case 2: return allTimes();
            case 3: return accounts.size();
            case 4: return names.size();
            case 5: return words.size();
            case 6: return claims.size();
            case 7: return withdrawn.size();
            case 8: return day;
            case 9: return tape.length();
            case 10: return sheets[0] == null ? NONE : java.lang.reflect.Array.getLength(sheets[0]);
            default: return BAD;
        }
    }
}
