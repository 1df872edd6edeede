import java.math.BigInteger;
import java.util.ArrayDeque;
import java.util.ArrayList;
import java.util.Arrays;
import java.util.HashMap;
import java.util.HashSet;
import java.util.List;
import java.util.Map;
import java.util.Random;
import java.util.Set;
import java.util.TreeSet;
import java.util.function.ToLongFunction;

/** Random runs of calls, each answer held against a plain second telling of the document. */
public final class ModelTest {

    // ---- the second telling: everything by trying all there is

    static final class Fault extends RuntimeException {
        final int kind;
        final int place;

        Fault(int kind, int place) {
            super(null, null, false, false);
            this.kind = kind;
            this.place = place;
        }
    }

    static final class Token {
        final String text;
        final int place;

        Token(String text, int place) {
            this.text = text;
            this.place = place;
        }

        boolean isNumber() {
            return !text.isEmpty() && Character.isDigit(text.charAt(0));
        }
    }

    /** A law's part: its value (a truth is 0 or 1) by the words. */
    interface Part extends ToLongFunction<Map<String, Integer>> { }

    static final class Folk implements Cloneable {
        int at;
        int blank = -1;
        int ear;
        boolean found;

        Folk copy() {
            Folk f = new Folk();
            f.at = at;
            f.blank = blank;
            f.ear = ear;
            f.found = found;
            return f;
        }
    }

    static final class Told {
        int notes = 2;
        int lines;
        final List<int[]> tunes = new ArrayList<>();
        final List<int[]> places = new ArrayList<>();
        final Set<List<Integer>> ways = new HashSet<>();
        final List<Folk> folk = new ArrayList<>();
        Part hears;
        Part goes;

        boolean way(int a, int b) {
            return ways.contains(List.of(Math.min(a, b), Math.max(a, b)));
        }
    }

    static final class Parser {
        final String text;
        int i = 0;
        Token now;
        Told told = new Told();
        boolean hearsLaw;

        Parser(String text) {
            this.text = text;
            next();
        }

        void next() {
            while (i < text.length() && " \n".indexOf(text.charAt(i)) >= 0) i++;
            int from = i;
            if (i == text.length()) {
                now = new Token("", text.length());
                return;
            }
            char c = text.charAt(i);
            if (c >= 'a' && c <= 'z') {
                while (i < text.length() && text.charAt(i) >= 'a' && text.charAt(i) <= 'z') i++;
            } else if (c >= '0' && c <= '9') {
                while (i < text.length() && text.charAt(i) >= '0' && text.charAt(i) <= '9') i++;
                if (i - from >= 4) throw new Fault(1, from);
            } else if (";:+-*()[]=<>".indexOf(c) >= 0) {
                i++;
            } else {
                throw new Fault(1, from);
            }
            now = new Token(text.substring(from, i), from);
        }

        Fault fault(int kind) {
            return new Fault(kind, now.place);
        }

        void want(String s) {
            if (!now.text.equals(s)) throw fault(2);
            next();
        }

        int number(int least, int most, int not) {
            if (!now.isNumber()) throw fault(2);
            int v = Integer.parseInt(now.text);
            if (v < least || v > most || v == not) throw fault(3);
            next();
            return v;
        }

        int[] list(int most, int greatest) {
            List<Integer> l = new ArrayList<>();
            l.add(number(0, greatest, -1));
            while (now.isNumber()) {
                if (l.size() == most) throw fault(2);
                l.add(number(0, greatest, -1));
            }
            return l.stream().mapToInt(x -> x).toArray();
        }

        Told parse() {
            want("scale");
            told.notes = number(2, 10, -1);
            want(";");
            told.lines = 1;
            while (!now.text.isEmpty()) {
                line();
                want(";");
                told.lines++;
            }
            return told;
        }

        void line() {
            switch (now.text) {
                case "tune" -> {
                    if (told.tunes.size() == 6) throw fault(4);
                    next();
                    told.tunes.add(list(9, told.notes - 1));
                }
                case "place" -> {
                    if (told.places.size() == 6) throw fault(4);
                    next();
                    told.places.add(list(4, told.notes));
                }
                case "way" -> {
                    next();
                    int a = number(0, told.places.size() - 1, -1);
                    int b = number(0, told.places.size() - 1, a);
                    told.ways.add(List.of(Math.min(a, b), Math.max(a, b)));
                }
                case "person" -> person();
                case "hears", "goes" -> {
                    hearsLaw = now.text.equals("hears");
                    next();
                    want(":");
                    Part p = truth(0);
                    if (hearsLaw) told.hears = p; else told.goes = p;
                }
                default -> throw fault(2);
            }
        }

        void person() {
            if (told.folk.size() == 6) throw fault(4);
            next();
            want("at");
            Folk f = new Folk();
            f.at = number(0, told.places.size() - 1, -1);
            while (!now.text.equals(";")) {
                String flag = now.text;
                if (!List.of("blank", "ear", "found").contains(flag)) throw fault(2);
                next();
                if (flag.equals("blank")) f.blank = number(0, told.notes - 1, -1);
                if (flag.equals("ear")) f.ear = number(0, 9, -1);
                if (flag.equals("found")) f.found = true;
            }
            told.folk.add(f);
        }

        Part truth(int depth) {
            Part a = both(depth);
            while (now.text.equals("or")) {
                next();
                Part x = a;
                Part y = both(depth);
                a = w -> x.applyAsLong(w) + y.applyAsLong(w) > 0 ? 1 : 0;
            }
            return a;
        }

        Part both(int depth) {
            Part a = unit(depth);
            while (now.text.equals("and")) {
                next();
                Part x = a;
                Part y = unit(depth);
                a = w -> x.applyAsLong(w) * y.applyAsLong(w);
            }
            return a;
        }

        Part unit(int depth) {
            if (now.text.equals("not") || now.text.equals("[")) {
                if (depth == 6) throw fault(4);
                boolean not = now.text.equals("not");
                next();
                if (not) {
                    Part x = unit(depth + 1);
                    return w -> 1 - x.applyAsLong(w);
                }
                Part x = truth(depth + 1);
                want("]");
                return x;
            }
            Part a = sum(depth);
            String s = now.text;
            if (!List.of("=", "<", ">").contains(s)) throw fault(2);
            next();
            Part b = sum(depth);
            return w -> {
                int c = Long.compare(a.applyAsLong(w), b.applyAsLong(w));
                return (s.equals("=") ? c == 0 : s.equals("<") ? c < 0 : c > 0) ? 1 : 0;
            };
        }

        static long keep(long v) {
            return v > 1000000 ? 1000000 : v < -1000000 ? -1000000 : v;
        }

        Part sum(int depth) {
            Part a = term(depth);
            while (now.text.equals("+") || now.text.equals("-")) {
                int sign = now.text.equals("+") ? 1 : -1;
                next();
                Part x = a;
                Part y = term(depth);
                a = w -> keep(x.applyAsLong(w) + sign * y.applyAsLong(w));
            }
            return a;
        }

        Part term(int depth) {
            Part a = atom(depth);
            while (now.text.equals("*")) {
                next();
                Part x = a;
                Part y = atom(depth);
                a = w -> keep(x.applyAsLong(w) * y.applyAsLong(w));
            }
            return a;
        }

        Part atom(int depth) {
            if (now.isNumber()) {
                long v = number(0, 999, -1);
                return w -> v;
            }
            if (now.text.equals("(")) {
                if (depth == 6) throw fault(4);
                next();
                Part x = sum(depth + 1);
                want(")");
                return x;
            }
            List<String> words = hearsLaw ? List.of("who", "note", "blank", "ear", "found") : List.of("from", "to", "step");
            String word = now.text;
            if (!words.contains(word)) throw fault(2);
            next();
            return w -> w.get(word);
        }
    }

    static final class Shot {
        Told told;
        List<Folk> folk = new ArrayList<>();
        int day;
    }

    static final class Model {
        String tape = "";
        Told told = new Told();
        List<Folk> folk = new ArrayList<>();
        int day = 0;
        int fault = 0;
        int faultPlace = -1;
        final ArrayDeque<Shot> past = new ArrayDeque<>();
        final Shot[] images = new Shot[2];
        final long[][] trays = new long[4][];
        final int[] sorts = new int[4];

        Shot shot() {
            Shot s = new Shot();
            s.told = told;
            for (Folk f : folk) s.folk.add(f.copy());
            s.day = day;
            return s;
        }

        void set(Shot s) {
            told = s.told;
            folk = new ArrayList<>();
            for (Folk f : s.folk) folk.add(f.copy());
            day = s.day;
        }

        void did(Shot s) {
            past.addLast(s);
            if (past.size() > 10) past.removeFirst();
        }

        boolean isP(int p) { return p >= 0 && p < folk.size(); }
        boolean isK(int k) { return k >= 0 && k < told.places.size(); }
        boolean isT(int t) { return t >= 0 && t < told.tunes.size(); }
        boolean isN(int n) { return n >= 0 && n < told.notes; }
        boolean set(int s, int n) { return s >= 0 && s < 1 << n; }
        boolean people(int s) { return set(s, folk.size()); }
        boolean notes(int s) { return set(s, told.notes); }
        static boolean in(int set, int i) { return (set & 1 << i) != 0; }

        long feed(int[] v) {
            if (tape.length() > 880) return -5;
            StringBuilder b = new StringBuilder(tape);
            for (int x : v) for (byte y : BigInteger.valueOf(x & 0xffffffffL | 1L << 32).toByteArray()) b.append((char) (y & 255));
            // each number came with a leading 1 that marks its width
            StringBuilder c = new StringBuilder(tape);
            for (int j = tape.length(); j < b.length(); j++) if ((j - tape.length()) % 5 != 0) c.append(b.charAt(j));
            tape = c.toString();
            return tape.length();
        }

        long valley(int n) {
            if (n < 0 || n > tape.length()) return -3;
            String text = tape.substring(0, n);
            tape = "";
            fault = 0;
            faultPlace = -1;
            try {
                Told t = new Parser(text).parse();
                told = t;
                folk = new ArrayList<>();
                for (Folk f : t.folk) folk.add(f.copy());
                day = 0;
                past.clear();
                return t.lines;
            } catch (Fault f) {
                fault = f.kind;
                faultPlace = f.place;
                return -30 - f.kind;
            }
        }

        boolean hears(int p, int n, int blank) {
            Folk f = folk.get(p);
            if (told.hears == null) return f.found || n != blank;
            Map<String, Integer> w = new HashMap<>();
            w.put("who", p);
            w.put("note", n);
            w.put("blank", blank == -1 ? told.notes : blank);
            w.put("ear", f.ear);
            w.put("found", f.found ? 1 : 0);
            return told.hears.applyAsLong(w) != 0;
        }

        boolean hears(int p, int n) { return hears(p, n, folk.get(p).blank); }

        boolean may(int a, int b) {
            if (told.goes == null) return true;
            return told.goes.applyAsLong(Map.of("from", a, "to", b, "step", Math.abs(a - b))) != 0;
        }

        int heard(int p) {
            int s = 0;
            for (int n = 0; n < told.notes; n++) if (hears(p, n)) s |= 1 << n;
            return s;
        }

        boolean allHear(int set, int n) {
            for (int p = 0; p < folk.size(); p++) if (in(set, p) && !hears(p, n)) return false;
            return true;
        }

        int sound(int k, int d) {
            int[] s = told.places.get(k);
            int n = s[d % s.length];
            return n == told.notes ? -1 : n;
        }

        int foundBits() {
            int s = 0;
            for (int p = 0; p < folk.size(); p++) if (folk.get(p).found) s |= 1 << p;
            return s;
        }

        long person(int p, int what) {
            if (!isP(p) || what < 0 || what > 4) return -2;
            Folk f = folk.get(p);
            return new int[] {f.at, f.blank, f.ear, f.found ? 1 : 0, heard(p)}[what];
        }

        long sounds(int k, int d) { return !isK(k) ? -2 : d < 0 ? -3 : sound(k, d); }

        long place(int k, int what) {
            if (!isK(k) || what < 0 || what > 2) return -2;
            int w = 0;
            for (int j = 0; j < told.places.size(); j++) if (told.way(j, k)) w |= 1 << j;
            int f = 0;
            for (int p = 0; p < folk.size(); p++) if (folk.get(p).at == k) f |= 1 << p;
            return new int[] {w, f, told.places.get(k).length}[what];
        }

        long note(int t, int i) {
            if (!isT(t)) return -2;
            if (i < 0) return -3;
            return i < told.tunes.get(t).length ? told.tunes.get(t)[i] : -1;
        }

        long steps(int t, int p) {
            if (!isT(t) || !isP(p)) return -2;
            int s = 0;
            for (int i = 0; i < told.tunes.get(t).length; i++) if (!hears(p, told.tunes.get(t)[i])) s += 1 << i;
            return s;
        }

        long whole(int set) {
            if (!people(set)) return -3;
            int s = 0;
            for (int t = 0; t < told.tunes.size(); t++) {
                boolean ok = true;
                for (int n : told.tunes.get(t)) ok &= allHear(set, n);
                if (ok) s += 1 << t;
            }
            return s;
        }

        long owners(int n) {
            if (!isN(n)) return -2;
            int s = 0;
            for (int p = 0; p < folk.size(); p++) if (!hears(p, n)) s += 1 << p;
            return s;
        }

        int whyGo(int p, int k) {
            if (!isP(p) || !isK(k)) return 1;
            return told.way(folk.get(p).at, k) ? 0 : 2;
        }

        int oneDay() {
            int s = 0;
            for (int p = 0; p < folk.size(); p++) {
                Folk f = folk.get(p);
                if (!f.found && f.blank >= 0 && sound(f.at, day) == f.blank) {
                    f.found = true;
                    s += 1 << p;
                }
            }
            day++;
            return s;
        }

        long go(int p, int k) {
            int why = whyGo(p, k);
            if (why != 0) return -10 - why;
            did(shot());
            folk.get(p).at = k;
            return sound(k, day);
        }

        long days(int n) {
            if (n < 1 || n > 99) return -3;
            did(shot());
            int s = 0;
            for (int i = 0; i < n; i++) s |= oneDay();
            return s;
        }

        long ear(int p, int n) {
            if (!isP(p) || n < 0 || n > 9) return -11;
            did(shot());
            int was = folk.get(p).ear;
            folk.get(p).ear = n;
            return was;
        }

        long blank(int p, int n) {
            if (!isP(p) || n < -1 || n >= told.notes) return -11;
            did(shot());
            int was = folk.get(p).blank;
            folk.get(p).blank = n;
            folk.get(p).found = false;
            return was;
        }

        long undo(int n) {
            if (n < 1 || n > 10 || n > past.size()) return -3;
            for (int i = 0; i < n; i++) set(past.removeLast());
            return past.size();
        }

        int deed(long v) {
            if (v == -1) {
                oneDay();
                return 0;
            }
            if (v < 0 || v > 299) return 1;
            int p = (int) (v % 100 / 10);
            int n = (int) (v % 10);
            if (v < 100) {
                int why = whyGo(p, n);
                if (why == 0) folk.get(p).at = n;
                return why;
            }
            if (!isP(p)) return 1;
            if (v < 200) {
                folk.get(p).ear = n;
                return 0;
            }
            if (n >= told.notes) return 1;
            folk.get(p).blank = n;
            folk.get(p).found = false;
            return 0;
        }

        long judge(int t, int what) {
            if (t < 0 || t > 3 || what < 0 || what > 3) return -2;
            if (trays[t] == null) return -6;
            Shot now = shot();
            int at = -1;
            int why = 0;
            for (int i = 0; i < trays[t].length && why == 0; i++) {
                why = deed(trays[t][i]);
                if (why != 0) at = i;
            }
            int places = 0;
            for (Folk f : folk) places |= 1 << f.at;
            int[] answers = {at, why, foundBits(), places};
            set(now);
            return answers[what];
        }

        long perform(int t) {
            if (t < 0 || t > 3) return -2;
            if (trays[t] == null) return -6;
            Shot now = shot();
            int n = 0;
            while (n < trays[t].length && deed(trays[t][n]) == 0) n++;
            if (n > 0) did(now);
            return n;
        }

        long x;

        int draw() {
            x = x * 1103515245L + 12345 & 0xffffffffL;
            return (int) (x >> 16);
        }

        long year(int seed, int times) {
            if (times < 1 || times > 40) return -3;
            Shot now = shot();
            x = seed & 0xffffffffL;
            int n = 0;
            for (int i = 0; i < times; i++) {
                int d = draw() % 5;
                boolean ok;
                if (d == 0) {
                    oneDay();
                    ok = true;
                } else if (d <= 2) {
                    int p = draw() % 6;
                    int k = draw() % 6;
                    ok = whyGo(p, k) == 0;
                    if (ok) folk.get(p).at = k;
                } else {
                    int p = draw() % 6;
                    int v = draw() % 10;
                    ok = isP(p) && (d == 3 || v < told.notes);
                    if (ok && d == 3) folk.get(p).ear = v;
                    if (ok && d == 4) {
                        folk.get(p).blank = v;
                        folk.get(p).found = false;
                    }
                }
                if (ok) n++;
            }
            if (n > 0) did(now);
            return n;
        }

        long noAnswers(int t, int p) {
            if (t < 0 || t > 3 || !isP(p)) return -2;
            if (trays[t] == null) return -6;
            if (trays[t].length < 1 || trays[t].length > 20) return -4;
            for (long v : trays[t]) if (v < 0 || v >= 2 * told.notes) return -3;
            return 0;
        }

        /** Blank number b (the last one: none) as the hearing sees it. */
        boolean would(int p, int n, int b) { return hears(p, n, b == told.notes ? -1 : b); }

        long blanks(int t, int p) {
            if (noAnswers(t, p) != 0) return noAnswers(t, p);
            int s = 0;
            for (int b = 0; b <= told.notes; b++) {
                boolean ok = true;
                for (long v : trays[t]) ok &= would(p, (int) v / 2, b) == (v % 2 == 1);
                if (ok) s += 1 << b;
            }
            return s;
        }

        long attempt(int t, int p) {
            long s = blanks(t, p);
            if (s < 0) return s;
            if (s == 0) return -1;
            int best = -1;
            int most = -1;
            for (int n = 0; n < told.notes; n++) {
                int yes = 0;
                int no = 0;
                for (int b = 0; b <= told.notes; b++) if (in((int) s, b)) {
                    if (would(p, n, b)) yes++; else no++;
                }
                if (Math.min(yes, no) > most) {
                    most = Math.min(yes, no);
                    best = n;
                }
            }
            return best;
        }

        Set<Integer> vectors(int p) {
            Set<Integer> s = new TreeSet<>();
            for (int b = 0; b <= told.notes; b++) {
                int v = 0;
                for (int n = 0; n < told.notes; n++) if (would(p, n, b)) v += 1 << n;
                s.add(v);
            }
            return s;
        }

        int worst(Set<Integer> s, Map<Set<Integer>, Integer> memo) {
            if (s.size() <= 1) return 0;
            Integer known = memo.get(s);
            if (known != null) return known;
            int best = 1000;
            for (int n = 0; n < told.notes; n++) best = Math.min(best, worstWith(s, n, memo));
            memo.put(s, best);
            return best;
        }

        int worstWith(Set<Integer> s, int n, Map<Set<Integer>, Integer> memo) {
            Set<Integer> yes = new TreeSet<>();
            Set<Integer> no = new TreeSet<>();
            for (int v : s) if (in(v, n)) yes.add(v); else no.add(v);
            if (yes.isEmpty() || no.isEmpty()) return 1000;
            return 1 + Math.max(worst(yes, memo), worst(no, memo));
        }

        long knowing(int p) { return !isP(p) ? -2 : worst(vectors(p), new HashMap<>()); }

        long begins(int p) {
            if (!isP(p)) return -2;
            Map<Set<Integer>, Integer> memo = new HashMap<>();
            Set<Integer> s = vectors(p);
            int best = worst(s, memo);
            for (int n = 0; n < told.notes; n++) if (best > 0 && worstWith(s, n, memo) == best) return n;
            return -1;
        }

        long atOnce(int p) {
            if (!isP(p)) return -2;
            Set<Integer> all = vectors(p);
            for (int size = 0; size <= told.notes; size++) {
                for (int s = 0; s < 1 << told.notes; s++) {
                    Set<Integer> cut = new HashSet<>();
                    for (int v : all) cut.add(v & s);
                    if (Integer.bitCount(s) == size && cut.size() == all.size()) return s;
                }
            }
            return -99;
        }

        long choir(int notes, int m, int what) {
            if (what < 0 || what > 1) return -2;
            if (!notes(notes) || m < 1 || m > 6) return -3;
            for (int size = 0; size <= folk.size(); size++) {
                next:
                for (int s = 0; s < 1 << folk.size(); s++) {
                    if (Integer.bitCount(s) != size) continue;
                    for (int n = 0; n < told.notes; n++) {
                        int c = 0;
                        for (int p = 0; p < folk.size(); p++) if (in(s, p) && hears(p, n)) c++;
                        if (in(notes, n) && c < m) continue next;
                    }
                    return what == 0 ? size : s;
                }
            }
            return -1;
        }

        boolean fit(int a, int b, int notes) {
            for (int n = 0; n < told.notes; n++) if (in(notes, n) && !hears(a, n) && !hears(b, n)) return false;
            return true;
        }

        List<List<Integer>> allRows(int notes) {
            List<List<Integer>> rows = new ArrayList<>();
            boolean[][] fits = new boolean[6][6];
            for (int a = 0; a < folk.size(); a++) for (int b = 0; b < folk.size(); b++) fits[a][b] = fit(a, b, notes);
            rows(new ArrayList<>(), fits, rows);
            return rows;
        }

        void rows(List<Integer> row, boolean[][] fits, List<List<Integer>> rows) {
            if (row.size() == folk.size()) rows.add(new ArrayList<>(row));
            for (int p = 0; p < folk.size(); p++) {
                if (row.contains(p) || !row.isEmpty() && !fits[row.get(row.size() - 1)][p]) continue;
                row.add(p);
                rows(row, fits, rows);
                row.remove(row.size() - 1);
            }
        }

        long row(int notes, int k) {
            if (!notes(notes) || k < 0) return -3;
            List<List<Integer>> rows = allRows(notes);
            return rows.isEmpty() || k >= folk.size() ? -1 : rows.get(0).get(k);
        }

        long rows(int notes) { return !notes(notes) ? -3 : allRows(notes).size(); }

        int[] bestPairs;

        long pairs(int notes, int what) {
            if (what != 0 && !(what >= 10 && isP(what - 10))) return -2;
            if (!notes(notes)) return -3;
            bestPairs = null;
            int[] with = new int[folk.size()];
            Arrays.fill(with, 99);
            tryPairs(with, 0, notes);
            if (what > 0) return bestPairs[what - 10] == 99 ? -1 : bestPairs[what - 10];
            return pairCount(bestPairs);
        }

        static int pairCount(int[] with) {
            int c = 0;
            for (int w : with) if (w != 99) c++;
            return c / 2;
        }

        void tryPairs(int[] with, int p, int notes) {
            if (p == with.length) {
                if (bestPairs == null || pairCount(with) > pairCount(bestPairs)
                        || pairCount(with) == pairCount(bestPairs) && Arrays.compare(with, bestPairs) < 0) bestPairs = with.clone();
                return;
            }
            tryPairs(with, p + 1, notes);
            for (int q = p + 1; q < with.length && with[p] == 99; q++) {
                if (with[q] == 99 && fit(p, q, notes)) {
                    with[p] = q;
                    with[q] = p;
                    tryPairs(with, p + 1, notes);
                    with[p] = 99;
                    with[q] = 99;
                }
            }
        }

        List<Integer> longTune(int set) {
            List<Integer> open = new ArrayList<>();
            for (int n = 0; n < told.notes; n++) if (allHear(set, n)) open.add(n);
            boolean[][] may = mayAll();
            best = new ArrayList<>();
            grow(new ArrayList<>(), open, may);
            return best;
        }

        boolean[][] mayAll() {
            boolean[][] may = new boolean[10][10];
            for (int a = 0; a < told.notes; a++) for (int b = 0; b < told.notes; b++) may[a][b] = may(a, b);
            return may;
        }

        List<Integer> best;

        void grow(List<Integer> tune, List<Integer> open, boolean[][] may) {
            if (tune.size() > best.size()) best = new ArrayList<>(tune);
            for (int n : open) {
                if (best.size() == open.size()) return;
                if (tune.contains(n) || !tune.isEmpty() && !may[tune.get(tune.size() - 1)][n]) continue;
                tune.add(n);
                grow(tune, open, may);
                tune.remove(tune.size() - 1);
            }
        }

        long longest(int set) { return !people(set) ? -3 : longTune(set).size(); }

        long longNote(int set, int i) {
            if (!people(set) || i < 0) return -3;
            List<Integer> t = longTune(set);
            return i < t.size() ? t.get(i) : -1;
        }

        /** By breadth: paths stay in the order of their notes within one length. */
        List<Integer> shortTune(int set, int notes) {
            if (notes == 0) return List.of();
            boolean[][] may = mayAll();
            Set<List<Integer>> seen = new HashSet<>();
            ArrayDeque<List<Integer>> queue = new ArrayDeque<>();
            queue.add(List.of());
            while (!queue.isEmpty()) {
                List<Integer> tune = queue.removeFirst();
                for (int n = 0; n < told.notes; n++) {
                    if (!allHear(set, n) || !tune.isEmpty() && !may[tune.get(tune.size() - 1)][n]) continue;
                    List<Integer> longer = new ArrayList<>(tune);
                    longer.add(n);
                    int has = 0;
                    for (int m : longer) has |= 1 << m & notes;
                    if (has == notes) return longer;
                    if (seen.add(List.of(has, n))) queue.addLast(longer);
                }
            }
            return null;
        }

        long through(int set, int notes) {
            if (!people(set) || !notes(notes)) return -3;
            List<Integer> t = shortTune(set, notes);
            return t == null ? -1 : t.size();
        }

        long throughNote(int set, int notes, int i) {
            if (!people(set) || !notes(notes) || i < 0) return -3;
            List<Integer> t = shortTune(set, notes);
            return t == null || i >= t.size() ? -1 : t.get(i);
        }

        long tunes(int set, int n) {
            if (!people(set) || n < 1 || n > 15) return -3;
            boolean[][] may = mayAll();
            Map<List<Integer>, Long> memo = new HashMap<>();
            long sum = 0;
            for (int a = 0; a < told.notes; a++) if (allHear(set, a)) sum += going(set, a, n - 1, may, memo);
            return sum;
        }

        long going(int set, int a, int left, boolean[][] may, Map<List<Integer>, Long> memo) {
            if (left == 0) return 1;
            Long known = memo.get(List.of(a, left));
            if (known != null) return known;
            long sum = 0;
            for (int b = 0; b < told.notes; b++) if (may[a][b] && allHear(set, b)) sum += going(set, b, left - 1, may, memo);
            memo.put(List.of(a, left), sum);
            return sum;
        }

        /** The route from a place, null if there is none; empty if it has found. */
        List<Integer> way(int p, int from) {
            Folk f = folk.get(p);
            if (f.found) return List.of();
            if (f.blank < 0) return null;
            List<List<Integer>> routes = new ArrayList<>();
            routes.add(List.of());
            for (int d = 0; d < 40; d++) {
                List<List<Integer>> longer = new ArrayList<>();
                Set<Integer> seen = new HashSet<>();
                for (List<Integer> r : routes) {
                    int here = r.isEmpty() ? from : r.get(r.size() - 1);
                    for (int k = 0; k < told.places.size(); k++) {
                        if (k != here && !told.way(here, k) || !seen.add(k)) continue;
                        List<Integer> l = new ArrayList<>(r);
                        l.add(k);
                        longer.add(l);
                    }
                }
                // the first by places that ends on a sounding place
                List<Integer> first = null;
                for (List<Integer> l : longer) {
                    if (sound(l.get(d), day + d) == f.blank && (first == null || before(l, first))) first = l;
                }
                if (first != null) return first;
                routes = longer;
            }
            return null;
        }

        static boolean before(List<Integer> a, List<Integer> b) {
            for (int i = 0; i < a.size(); i++) if (!a.get(i).equals(b.get(i))) return a.get(i) < b.get(i);
            return false;
        }

        long finds(int p) {
            if (!isP(p)) return -2;
            List<Integer> r = way(p, folk.get(p).at);
            return r == null ? -1 : r.size();
        }

        long route(int p, int i) {
            if (!isP(p)) return -2;
            if (i < 0) return -3;
            List<Integer> r = way(p, folk.get(p).at);
            return r == null || i >= r.size() ? -1 : r.get(i);
        }

        long all() {
            long last = 0;
            for (int p = 0; p < folk.size(); p++) last = Math.max(last, finds(p));
            return last;
        }

        long near(int p, int n) {
            if (!isP(p)) return -2;
            if (n < 1 || n > 99) return -3;
            int s = 0;
            for (int k = 0; k < told.places.size(); k++) {
                List<Integer> r = way(p, k);
                if (r != null && r.size() <= n) s |= 1 << k;
            }
            return s;
        }

        /** Above and below, not shortened. */
        BigInteger[] odds(int p, int at, int d, int n) {
            Folk f = folk.get(p);
            if (f.found) return new BigInteger[] {BigInteger.ONE, BigInteger.ONE};
            if (d == n) return new BigInteger[] {BigInteger.ZERO, BigInteger.ONE};
            BigInteger above = BigInteger.ZERO;
            BigInteger below = BigInteger.ONE;
            int ways = 0;
            for (int k = 0; k < told.places.size(); k++) {
                if (k != at && !told.way(at, k)) continue;
                ways++;
                boolean hit = f.blank >= 0 && sound(k, day + d) == f.blank;
                BigInteger[] o = hit ? new BigInteger[] {BigInteger.ONE, BigInteger.ONE} : odds(p, k, d + 1, n);
                above = above.multiply(o[1]).add(o[0].multiply(below));
                below = below.multiply(o[1]);
                BigInteger g = above.gcd(below);
                above = above.divide(g);
                below = below.divide(g);
            }
            below = below.multiply(BigInteger.valueOf(ways));
            BigInteger g = above.gcd(below);
            return new BigInteger[] {above.divide(g), below.divide(g)};
        }

        long chance(int p, int n, int what) {
            if (!isP(p) || what < 0 || what > 1) return -2;
            if (n < 0 || n > 6) return -3;
            return odds(p, folk.get(p).at, 0, n)[what].longValueExact();
        }

        long likeliest(int n) {
            if (n < 0 || n > 6) return -3;
            int who = -1;
            BigInteger[] most = null;
            for (int p = 0; p < folk.size(); p++) {
                if (folk.get(p).found) continue;
                BigInteger[] o = odds(p, folk.get(p).at, 0, n);
                if (most == null || o[0].multiply(most[1]).compareTo(most[0].multiply(o[1])) > 0) {
                    most = o;
                    who = p;
                }
            }
            return who;
        }

        long numbers(int t, int sort, int n) {
            if (t < 0 || t > 3 || sort < 0 || sort > 3) return -2;
            if (n < 0 || n > 40) return -3;
            trays[t] = new long[n];
            sorts[t] = sort;
            return 0;
        }

        long write(int t, int i, long v) {
            if (t < 0 || t > 3) return -2;
            if (trays[t] == null) return -6;
            if (i < 0 || i >= trays[t].length) return -7;
            int spare = 64 - (8 << sorts[t]);
            return trays[t][i] = v << spare >> spare;
        }

        long lists(int t, int set) {
            if (t < 0 || t > 3) return -2;
            if (trays[t] == null) return -6;
            if (!people(set)) return -3;
            List<Integer> l = longTune(set);
            int n = 0;
            while (n < l.size() && n < trays[t].length) {
                trays[t][n] = l.get(n);
                n++;
            }
            return n;
        }

        long image(int i) {
            if (i < 0 || i > 1) return -2;
            images[i] = shot();
            return 0;
        }

        long restore(int i) {
            if (i < 0 || i > 1) return -2;
            if (images[i] == null) return -5;
            set(images[i]);
            past.clear();
            return 0;
        }

        long count(int what) {
            if (what < 0 || what > 9) return -1;
            return new int[] {told.notes, told.tunes.size(), told.places.size(), folk.size(), foundBits(), day,
                told.ways.size(), past.size(), tape.length(), told.lines}[what];
        }
    }

    // ---- random runs

    static int wrong = 0;
    static long calls = 0;
    static Random random;
    static BlankNote x;
    static Model m;
    static List<String> told;

    static void same(String call, long got, long due) {
        calls++;
        told.add(call + " -> " + due);
        if (got != due) {
            wrong++;
            System.out.println(call + " answered " + got + ", due is " + due);
            if (wrong == 1) for (String t : told) System.out.println("    " + t);
        }
    }

    static int r(int n) { return random.nextInt(n); }
    static boolean odd(int n) { return random.nextInt(n) == 0; }

    /** A number from 0 to n - 1, now and then one just beside or far off. */
    static int near(int n) {
        int k = r(40);
        if (k == 0) return -1;
        if (k == 1) return n;
        if (k == 2) return new int[] {Integer.MIN_VALUE, Integer.MAX_VALUE, -2, n + 1, 32, 64}[r(6)];
        return r(Math.max(1, n));
    }

    static int set(int n) {
        int k = r(40);
        if (k == 0) return -1;
        if (k == 1) return 1 << n;
        if (k == 2) return random.nextInt();
        return k < 8 ? (1 << n) - 1 : r(1 << n);
    }

    static void text(String text) {
        String t = text;
        same("text <" + text.replace("\n", "\\n") + ">", 0, 0);
        for (int i = 0; i < t.length(); i += 20) {
            int[] v = new int[5];
            for (int j = 0; j < 20; j++) {
                int c = i + j < t.length() ? t.charAt(i + j) : 32;
                v[j / 4] |= c << 24 - 8 * (j % 4);
            }
            same("feed", x.feed(v[0], v[1], v[2], v[3], v[4]), m.feed(v));
        }
        int n = odd(30) ? near(t.length()) : t.length();
        same("valley(" + n + ")", x.valley(n), m.valley(n));
        for (int w = -1; w < 3; w++) same("fault(" + w + ")", x.fault(w), w == 0 ? m.fault : w == 1 ? m.faultPlace : -1);
    }

    static String gap() { return odd(6) ? "\n" : odd(8) ? "  " : " "; }

    static String atom(boolean hears, int depth) {
        int k = r(10);
        if (k < 3) return "" + (odd(5) ? r(1000) : r(11));
        if (k < 4 && depth < 6) return "(" + sum(hears, depth + 1) + ")";
        String[] w = hears ? new String[] {"who", "note", "blank", "ear", "found", "note", "blank"} : new String[] {"from", "to", "step"};
        return w[r(w.length)];
    }

    static String term(boolean hears, int depth) {
        String t = atom(hears, depth);
        while (odd(4)) t += gap() + "*" + gap() + atom(hears, depth);
        return t;
    }

    static String sum(boolean hears, int depth) {
        String t = term(hears, depth);
        while (odd(3)) t += (odd(2) ? "+" : " - ") + term(hears, depth);
        return t;
    }

    static String unit(boolean hears, int depth) {
        int k = r(8);
        if (k == 0 && depth < 6) return "not " + unit(hears, depth + 1);
        if (k == 1 && depth < 6) return "[" + truth(hears, depth + 1) + "]";
        return sum(hears, depth) + gap() + "=<>".charAt(r(3)) + gap() + sum(hears, depth);
    }

    static String truth(boolean hears, int depth) {
        String t = unit(hears, depth);
        while (odd(3)) t += gap() + (odd(2) ? "or" : "and") + gap() + unit(hears, depth);
        return t;
    }

    static String sparse(int notes) {
        String[] laws = {"step = 1", "step < 3", "to = from + 1 or from = " + (notes - 1) + " and to = 0", "from < to", "step * step > 3",
            "(from + to) * 3 > 7 and not step = 0", "step = 2 or from = 0", "not [from = to or to = 0]", "1 = 0", "from * 2 = to or to * 2 = from"};
        return laws[r(laws.length)];
    }

    static String valleyText() {
        int notes = odd(6) ? 10 : 2 + r(7);
        StringBuilder b = new StringBuilder("scale " + notes + ";");
        int places = odd(9) ? 0 : 1 + r(6);
        int tunes = r(5);
        int people = places == 0 ? 0 : odd(8) ? 6 : r(6);
        for (int i = 0; i < tunes; i++) {
            b.append("tune");
            for (int j = 1 + r(9); j > 0; j--) b.append(gap()).append(r(notes));
            b.append(";");
        }
        for (int i = 0; i < places; i++) {
            b.append("place");
            for (int j = 1 + r(4); j > 0; j--) b.append(gap()).append(odd(3) ? notes : r(notes));
            b.append(odd(4) ? " ;" : ";");
        }
        for (int i = places < 2 ? 0 : r(9); i > 0; i--) {
            int a = r(places);
            b.append("way ").append(a).append(gap()).append((a + 1 + r(places - 1)) % places).append(";");
        }
        for (int i = 0; i < people; i++) {
            b.append("person at ").append(r(places));
            for (int j = r(4); j > 0; j--) b.append(new String[] {" blank " + r(notes), " blank " + r(notes), " ear " + r(10), " found"}[r(4)]);
            b.append(";");
        }
        if (odd(2)) b.append("hears : ").append(odd(3) ? "not note = blank or ear > " + r(9) + " and note < ear" : truth(true, 0)).append(";");
        if (odd(2) || notes > 8) b.append("goes : ").append(odd(2) || notes > 8 ? sparse(notes) : truth(false, 0)).append(";");
        if (odd(10)) b.append("hears:").append(truth(true, 0)).append(";");
        return b.length() > 900 ? valleyText() : b.toString();
    }

    /** A text with a few slips. */
    static String slipped(String text) {
        StringBuilder b = new StringBuilder(text);
        String[] bits = {";", ":", "+", "-", "*", "(", ")", "[", "]", "=", "<", ">", " not ", " or ", " and ", " 0 ", " 1 ", " 9 ", " 10 ", " 100 ", "1234", " tune ",
            " place ", " way ", " person ", " at ", " blank ", " ear ", " found ", " hears ", " goes ", " who ", " note ", " from ", " to ", " step ", " scale ",
            "\t", "\r", "A", "\u00e9", "\0", "!", "not not not not not not ", "[[[[[[", "((((((", "tune 0;", "place 0;", "person at 0;", " 0 0 0 0 0"};
        for (int j = 1 + r(3); j > 0; j--) {
            int at = r(b.length() + 1);
            int k = r(4);
            if (k == 0) b.insert(at, bits[r(bits.length)]);
            else if (k == 1 && at < b.length()) b.deleteCharAt(at);
            else if (k == 2 && at < b.length()) b.replace(at, Math.min(b.length(), at + 1 + r(4)), bits[r(bits.length)]);
            else if (odd(3)) b.setLength(at);
            else b.insert(at, bits[r(bits.length)]);
        }
        return b.length() > 900 ? b.substring(0, 900) : b.toString();
    }

    static long deed() {
        int k = r(12);
        if (k < 3) return -1;
        int p = r(Math.max(1, m.folk.size())) * 10;
        if (k < 7) return p + r(Math.max(1, m.told.places.size()));
        if (k == 7) return 100 + p + r(10);
        if (k == 8) return 200 + p + r(m.told.notes);
        if (k == 9) return r(300);
        if (k == 10) return p + r(Math.max(1, m.told.places.size()));
        return odd(3) ? new long[] {300, -2, Long.MAX_VALUE, Long.MIN_VALUE, 1L << 32, 299, 199, 99}[r(8)] : -1;
    }

    static void tray() {
        int t = near(4);
        int sort = near(4);
        int n = odd(3) ? near(41) : r(8);
        same("numbers(" + t + ", " + sort + ", " + n + ")", x.numbers(t, sort, n), m.numbers(t, sort, n));
        boolean answers = odd(2);
        for (int i = 0; i < Math.min(n, 12); i++) {
            long v = answers ? r(2 * m.told.notes) : deed();
            if (odd(20)) v = random.nextLong();
            int at = odd(30) ? near(n) : i;
            same("write(" + t + ", " + at + ", " + v + ")", x.write(t, at, v), m.write(t, at, v));
        }
    }

    static void oneCall() {
        int people = m.folk.size();
        int places = m.told.places.size();
        int notes = m.told.notes;
        int p = near(people);
        int a;
        int b;
        int c;
        switch (r(44)) {
            case 0 -> { a = near(5); same("person(" + p + ", " + a + ")", x.person(p, a), m.person(p, a)); }
            case 1 -> { a = near(places); b = near(99); same("sounds(" + a + ", " + b + ")", x.sounds(a, b), m.sounds(a, b)); }
            case 2 -> { a = near(places); b = near(3); same("place(" + a + ", " + b + ")", x.place(a, b), m.place(a, b)); }
            case 3 -> { a = near(m.told.tunes.size()); b = near(9); same("note(" + a + ", " + b + ")", x.note(a, b), m.note(a, b)); }
            case 4 -> { a = near(m.told.tunes.size()); same("steps(" + a + ", " + p + ")", x.steps(a, p), m.steps(a, p)); }
            case 5 -> { a = set(people); same("whole(" + a + ")", x.whole(a), m.whole(a)); }
            case 6 -> { a = near(notes); same("owners(" + a + ")", x.owners(a), m.owners(a)); }
            case 7, 8 -> { a = near(places); same("go(" + p + ", " + a + ")", x.go(p, a), m.go(p, a)); }
            case 9 -> { a = odd(4) ? near(101) : 1 + r(3); same("days(" + a + ")", x.days(a), m.days(a)); }
            case 10 -> { a = near(10); same("ear(" + p + ", " + a + ")", x.ear(p, a), m.ear(p, a)); }
            case 11 -> { a = near(notes); same("blank(" + p + ", " + a + ")", x.blank(p, a), m.blank(p, a)); }
            case 12 -> { a = odd(2) ? 1 : near(12); same("undo(" + a + ")", x.undo(a), m.undo(a)); }
            case 13 -> { a = near(4); b = near(4); same("judge(" + a + ", " + b + ")", x.judge(a, b), m.judge(a, b)); }
            case 14 -> { a = near(4); same("perform(" + a + ")", x.perform(a), m.perform(a)); }
            case 15 -> { a = random.nextInt(); b = near(42); same("year(" + a + ", " + b + ")", x.year(a, b), m.year(a, b)); }
            case 16 -> { a = near(4); same("blanks(" + a + ", " + p + ")", x.blanks(a, p), m.blanks(a, p)); }
            case 17 -> { a = near(4); same("attempt(" + a + ", " + p + ")", x.attempt(a, p), m.attempt(a, p)); }
            case 18 -> { same("knowing(" + p + ")", x.knowing(p), m.knowing(p)); }
            case 19 -> { same("begins(" + p + ")", x.begins(p), m.begins(p)); }
            case 20 -> { same("atOnce(" + p + ")", x.atOnce(p), m.atOnce(p)); }
            case 21 -> { a = set(notes); b = odd(2) ? 1 + r(2) : near(8); c = near(2); same("choir(" + a + ", " + b + ", " + c + ")", x.choir(a, b, c), m.choir(a, b, c)); }
            case 22 -> { a = set(notes); b = near(people); same("row(" + a + ", " + b + ")", x.row(a, b), m.row(a, b)); }
            case 23 -> { a = set(notes); same("rows(" + a + ")", x.rows(a), m.rows(a)); }
            case 24 -> { a = set(notes); b = odd(3) ? 0 : odd(6) ? near(20) : 10 + near(people); same("pairs(" + a + ", " + b + ")", x.pairs(a, b), m.pairs(a, b)); }
            case 25 -> { a = set(people); same("longest(" + a + ")", x.longest(a), m.longest(a)); }
            case 26 -> { a = set(people); b = near(notes); same("longNote(" + a + ", " + b + ")", x.longNote(a, b), m.longNote(a, b)); }
            case 27 -> { a = set(people); b = set(notes); same("through(" + a + ", " + b + ")", x.through(a, b), m.through(a, b)); }
            case 28 -> { a = odd(2) ? 0 : set(people); b = set(notes); c = near(notes); same("throughNote(" + a + ", " + b + ", " + c + ")", x.throughNote(a, b, c), m.throughNote(a, b, c)); }
            case 29 -> { a = set(people); b = near(17); same("tunes(" + a + ", " + b + ")", x.tunes(a, b), m.tunes(a, b)); }
            case 30 -> { same("finds(" + p + ")", x.finds(p), m.finds(p)); }
            case 31 -> { a = near(8); same("route(" + p + ", " + a + ")", x.route(p, a), m.route(p, a)); }
            case 32 -> { same("all()", x.all(), m.all()); }
            case 33 -> { a = odd(3) ? near(101) : 1 + r(5); same("near(" + p + ", " + a + ")", x.near(p, a), m.near(p, a)); }
            case 34 -> { a = near(6); b = near(2); same("chance(" + p + ", " + a + ", " + b + ")", x.chance(p, a, b), m.chance(p, a, b)); }
            case 35 -> { a = near(5); same("likeliest(" + a + ")", x.likeliest(a), m.likeliest(a)); }
            case 36 -> tray();
            case 37 -> { a = near(4); b = set(people); same("lists(" + a + ", " + b + ")", x.lists(a, b), m.lists(a, b)); }
            case 38 -> { a = near(2); if (odd(2)) same("image(" + a + ")", x.image(a), m.image(a)); }
            case 39 -> { a = near(2); if (odd(3)) same("restore(" + a + ")", x.restore(a), m.restore(a)); }
            case 40 -> text(odd(2) ? valleyText() : slipped(valleyText()));
            case 41 -> { a = near(10); same("count(" + a + ")", x.count(a), m.count(a)); }
            case 42 -> { int[] v = {random.nextInt(), random.nextInt(), random.nextInt(), random.nextInt(), random.nextInt()};
                if (odd(20)) same("feed " + Arrays.toString(v), x.feed(v[0], v[1], v[2], v[3], v[4]), m.feed(v)); }
            default -> state();
        }
    }

    /** All that can be seen of the state, so that a refused call that changed something shows. */
    static void state() {
        for (int w = 0; w < 10; w++) same("count(" + w + ")", x.count(w), m.count(w));
        for (int p = 0; p < m.folk.size(); p++) for (int w = 0; w < 5; w++) same("person(" + p + ", " + w + ")", x.person(p, w), m.person(p, w));
        for (int t = 0; t < 4; t++) for (int w = 0; w < 4; w++) same("judge(" + t + ", " + w + ")", x.judge(t, w), m.judge(t, w));
    }

    public static void main(String[] args) {
        int runs = args.length > 0 ? Integer.parseInt(args[0]) : 400;
        int from = args.length > 1 ? Integer.parseInt(args[1]) : 0;
        for (int run = from; run < from + runs && wrong < 20; run++) {
            random = new Random(run);
            x = new BlankNote();
            m = new Model();
            told = new ArrayList<>();
            told.add("run " + run);
            if (!odd(20)) text(valleyText());
            for (int i = 0; i < 160; i++) oneCall();
        }
        for (int run = from; run < from + runs && wrong < 20; run++) {
            random = new Random(-1 - run);
            x = new BlankNote();
            m = new Model();
            told = new ArrayList<>();
            for (int i = 0; i < 60; i++) text(slipped(valleyText()));
        }
        System.out.println(calls + " calls, " + wrong + " not as due");
        if (wrong != 0) System.exit(1);
    }
}
