import java.util.ArrayList;
import java.util.Arrays;
import java.util.Collections;
import java.util.HashMap;
import java.util.List;
import java.util.Map;
import java.util.function.Predicate;
import java.util.regex.Matcher;
import java.util.regex.Pattern;

/**
 * The document once more, in the plainest form: every TICK is gone through, nothing is shared
 * among RUNS. ModelTest holds the class against it.
 */
final class PlainRod {
    static final class Refused extends RuntimeException {
        final int code;
        Refused(int code) { super(null, null, false, false); this.code = code; }
    }

    static final class Fault extends RuntimeException {
        final int kind;
        final int place;
        Fault(int kind, int place) { super(null, null, false, false); this.kind = kind; this.place = place; }
    }

    static final class Cell implements Cloneable {
        int stiff = 10, strong = 100, notch = 0, stuff = 0;
        Cell copy() { Cell c = new Cell(); c.stiff = stiff; c.strong = strong; c.notch = notch; c.stuff = stuff; return c; }
    }

    static final class Rod {
        List<Cell> cells = new ArrayList<>();
        int flaws;
        Rod copy() { Rod r = new Rod(); r.flaws = flaws; for (Cell c : cells) r.cells.add(c.copy()); return r; }
        int n() { return cells.size(); }
        int shape(int i) { return (i + 1) * (n() - i) * 400 / ((n() + 1) * (n() + 1)); }
        int[] strengths(int seed) {
            int[] all = new int[n()];
            int x = seed;
            for (int i = 0; i < n(); i++) {
                Cell c = cells.get(i);
                int s = c.strong * (100 - c.notch) / 100;
                if (flaws > 0) { x = x * 1103515245 + 12345; s -= (x >>> 16) % (flaws + 1); }
                all[i] = s < 1 ? 1 : s;
            }
            return all;
        }
    }

    record Step(String word, int by, int ticks) { }

    static final class Break { int cell, tick, kind, cause; }

    static final class Wave { int from, dir, tick, amount, came, now, k; boolean echo, over; }

    static final class Run {
        int n, offs, ticks, bend, turn, ahead;
        List<Break> breaks = new ArrayList<>();
        List<Wave> waves = new ArrayList<>();
        List<Integer> pieces = new ArrayList<>();
        boolean[] letGo;
        int greatest = -1, greatestCell = -1, above = -100000;
    }

    static final class Row { int sort; long[] v; }

    static final class State {
        Rod[] rods = new Rod[4];
        List<List<Step>> doings = new ArrayList<>(List.of(List.of(), List.of(), List.of(), List.of()));
        Map<String, Integer> law = new HashMap<>();
        int lawLines;
        List<Predicate<Run>> looks = List.of();
        Run kept;
        // Nothing in a State is changed once it is there, so a copy may share it.
        State copy() {
            State s = new State();
            s.rods = rods.clone();
            s.doings = new ArrayList<>(doings);
            s.law = law;
            s.lawLines = lawLines;
            s.looks = looks;
            s.kept = kept;
            return s;
        }
    }

    static final List<String> LAW = List.of("bounce", "die", "run", "twist", "takes", "echo", "ring", "fingers");
    static final int[] LAW_WITHOUT = {100, 5, 2, 1, 50, 0, 20, 0};
    static final int[] LAW_LEAST = {0, 0, 1, 1, 0, 0, 0, 0};
    static final int[] LAW_MOST = {200, 99, 9, 9, 100, 100, 100, 100};

    StringBuilder tape = new StringBuilder();
    int faultKind = 0;
    int faultPlace = -1;
    State s = new State();
    State[] images = new State[2];
    Row[] rows = new Row[4];
    Map<Integer, Integer> refused = new HashMap<>();

    // ---- one call, by its name

    long call(String name, long... a) {
        int[] p = new int[a.length];
        for (int i = 0; i < a.length; i++) p[i] = (int) a[i];
        try {
            return answer(name, p, a);
        } catch (Refused r) {
            refused.merge(r.code <= -10 ? 1 : -r.code, 1, Integer::sum);
            return r.code;
        }
    }

    static void no(boolean bad, int code) { if (bad) throw new Refused(code); }

    Rod rod(int k) { no(k < 0 || k > 3 || s.rods[k] == null, -2); return s.rods[k]; }
    List<Step> doings(int k) { no(k < 0 || k > 3, -2); return s.doings.get(k); }
    static void in(int v, int least, int most, int code) { no(v < least || v > most, code); }
    static void seeds(int n) { in(n, 1, 100, -3); }
    int law(String word) { return s.law.getOrDefault(word, LAW_WITHOUT[LAW.indexOf(word)]); }

    long answer(String name, int[] p, long[] a) {
        switch (name) {
            case "feed": return feed(p);
            case "text": return text(p[0], p[1], p[2]);
            case "fault": return p[0] == 0 ? faultKind : p[0] == 1 ? faultPlace : -1;
            case "rod": { Rod r = rod(p[0]); in(p[1], 0, 1, -2); return p[1] == 0 ? r.n() : r.flaws; }
            case "cell": return cell(p[0], p[1], p[2]);
            case "strength": { Rod r = rod(p[0]); in(p[1], 0, r.n() - 1, -2); return r.strengths(p[2])[p[1]]; }
            case "bent": { List<Step> d = doings(p[0]); in(p[1], 0, 3999, -3); return bent(d, p[1])[p[2] != 0 ? 1 : 0]; }
            case "go": { Run r = go(rod(p[0]), doings(p[1]), p[2]); s.kept = r; return r.pieces.size(); }
            case "broke": case "piece": case "wave": case "run": case "why": case "film": case "flies": case "keep":
                return kept(name, p);
            case "row": {
                in(p[0], 0, 3, -2); in(p[1], 0, 3, -2); in(p[2], 0, 60, -3);
                Row r = new Row(); r.sort = p[1]; r.v = new long[p[2]]; rows[p[0]] = r; return 0;
            }
            case "write": {
                in(p[0], 0, 3, -2); no(rows[p[0]] == null, -6); in(p[1], 0, rows[p[0]].v.length - 1, -7);
                return put(rows[p[0]], p[1], a[2]);
            }
            case "image": in(p[0], 0, 1, -2); images[p[0]] = s.copy(); return 0;
            case "restore": in(p[0], 0, 1, -2); no(images[p[0]] == null, -5); s = images[p[0]].copy(); return 0;
            case "status": return List.of(1, 2, 3, 5, 6, 7).contains(p[0]) ? refused.getOrDefault(p[0], 0) : -1;
            case "count": return count(p[0]);
            default: return asked(name, p);
        }
    }

    int feed(int[] p) {
        no(tape.length() + 20 > 400, -5);
        for (int v : p) for (int sh = 24; sh >= 0; sh -= 8) tape.append((char) ((v >> sh) & 255));
        return tape.length();
    }

    int cell(int rod, int i, int what) {
        Rod r = rod(rod);
        in(i, 0, r.n() - 1, -2);
        in(what, 0, 4, -2);
        Cell c = r.cells.get(i);
        return new int[] {c.stiff, c.strong, c.notch, c.stuff, r.shape(i)}[what];
    }

    int count(int what) {
        if (what == 0) return tape.length();
        if (what == 1) return (int) Arrays.stream(s.rods).filter(r -> r != null).count();
        if (what >= 2 && what <= 9) return law(LAW.get(what - 2));
        if (what == 10) return s.lawLines;
        if (what == 11) return s.looks.size();
        if (what >= 20 && what <= 23) return s.doings.get(what - 20).size();
        if (what >= 30 && what <= 33) return s.doings.get(what - 30).stream().mapToInt(Step::ticks).sum();
        return -1;
    }

    static long put(Row r, int i, long v) {
        int bits = new int[] {8, 16, 32, 64}[r.sort];
        return r.v[i] = v << (64 - bits) >> (64 - bits);
    }

    // ---- texts

    record Token(String t, int place) {
        boolean isNumber() { return t != null && t.matches("[0-9]+"); }
    }

    String text;
    int at;

    static final Pattern TOKEN = Pattern.compile("[a-z]+|[0-9]+|[;()]");

    /** The TOKEN that comes next, with null as its text at the end. */
    Token peek() {
        int i = at;
        while (i < text.length() && (text.charAt(i) == 10 || text.charAt(i) == 32)) i++;
        if (i == text.length()) return new Token(null, i);
        Matcher m = TOKEN.matcher(text).region(i, text.length());
        if (!m.lookingAt()) throw new Fault(1, i);
        if (m.group().matches("[0-9]{4,}")) throw new Fault(1, i);
        return new Token(m.group(), i);
    }

    Token take() { Token t = peek(); at = t.place + (t.t == null ? 0 : t.t.length()); return t; }
    boolean atEnd() { return peek().t == null; }
    boolean sees(String w) { return w.equals(peek().t); }
    void want(String w) { if (!sees(w)) throw new Fault(2, peek().place); take(); }

    int wantNumber(int least, int most) {
        Token t = peek();
        if (!t.isNumber()) throw new Fault(2, t.place);
        int v = Integer.parseInt(t.t);
        if (v < least || v > most) throw new Fault(3, t.place);
        take();
        return v;
    }

    String wantWord(List<String> words, boolean tooMany) {
        Token t = peek();
        if (t.t == null || !words.contains(t.t)) throw new Fault(2, t.place);
        if (tooMany) throw new Fault(4, t.place);
        take();
        return t.t;
    }

    int text(int what, int k, int n) {
        in(what, 0, 3, -2);
        in(k, 0, what < 2 ? 3 : 0, -2);
        in(n, 0, tape.length(), -3);
        text = tape.substring(0, n);
        at = 0;
        tape.setLength(0);
        faultKind = 0;
        faultPlace = -1;
        try {
            return what == 0 ? rodText(k) : what == 1 ? doingsText(k) : what == 2 ? lawText() : looksText();
        } catch (Fault f) {
            faultKind = f.kind;
            faultPlace = f.place;
            throw new Refused(-10 - f.kind);
        }
    }

    int rodText(int k) {
        Rod r = new Rod();
        want("cells");
        int n = wantNumber(3, 60);
        for (int i = 0; i < n; i++) r.cells.add(new Cell());
        want(";");
        int lines = 1;
        while (!atEnd()) {
            String w = wantWord(List.of("stiff", "strong", "glass", "damp", "notch", "flaws"), lines == 24);
            int v = switch (w) {
                case "stiff" -> wantNumber(1, 99);
                case "strong" -> wantNumber(1, 999);
                case "notch", "flaws" -> wantNumber(0, 99);
                default -> 0;
            };
            if (w.equals("flaws")) r.flaws = v;
            else for (int i : spans(n)) {
                Cell c = r.cells.get(i);
                switch (w) {
                    case "stiff" -> c.stiff = v;
                    case "strong" -> c.strong = v;
                    case "notch" -> c.notch = v;
                    case "glass" -> c.stuff = 1;
                    default -> c.stuff = 2;
                }
            }
            want(";");
            lines++;
        }
        s.rods[k] = r;
        return lines;
    }

    List<Integer> spans(int n) {
        List<Integer> all = new ArrayList<>();
        boolean any = false;
        while (sees("at")) {
            any = true;
            take();
            int a = wantNumber(0, n - 1);
            int b = a;
            if (sees("to")) { take(); b = wantNumber(a, n - 1); }
            for (int i = a; i <= b; i++) all.add(i);
        }
        if (!any) for (int i = 0; i < n; i++) all.add(i);
        return all;
    }

    int doingsText(int k) {
        List<Step> d = new ArrayList<>();
        while (!atEnd()) {
            String w = wantWord(List.of("bend", "back", "turn", "rest"), d.size() == 12);
            int by = w.equals("rest") ? 0 : wantNumber(0, 99);
            want("for");
            d.add(new Step(w, by, wantNumber(1, 200)));
            want(";");
        }
        s.doings.set(k, d);
        return d.size();
    }

    int lawText() {
        Map<String, Integer> law = new HashMap<>();
        int lines = 0;
        while (!atEnd()) {
            String w = wantWord(LAW, lines == 24);
            int i = LAW.indexOf(w);
            law.put(w, wantNumber(LAW_LEAST[i], LAW_MOST[i]));
            want(";");
            lines++;
        }
        s.law = law;
        s.lawLines = lines;
        return lines;
    }

    int looksText() {
        List<Predicate<Run>> looks = new ArrayList<>();
        while (!atEnd()) {
            wantWord(List.of("seek"), looks.size() == 8);
            want("if");
            looks.add(test(0));
            want(";");
        }
        s.looks = looks;
        return looks.size();
    }

    Predicate<Run> test(int open) {
        Predicate<Run> p = part(open);
        while (sees("or")) { take(); p = p.or(part(open)); }
        return p;
    }

    Predicate<Run> part(int open) {
        Predicate<Run> p = fact(open);
        while (sees("and")) { take(); p = p.and(fact(open)); }
        return p;
    }

    Predicate<Run> fact(int open) {
        if (sees("not") || sees("(")) {
            if (open == 8) throw new Fault(5, peek().place);
            if (take().t.equals("not")) return fact(open + 1).negate();
            Predicate<Run> p = test(open + 1);
            want(")");
            return p;
        }
        String w = wantWord(List.of("flawed", "crushed", "pieces", "waved", "late", "offs", "first", "longest", "shortest", "behind"), false);
        switch (w) {
            case "flawed": return r -> !r.breaks.isEmpty() && r.breaks.get(0).kind == 4;
            case "crushed": return r -> !r.breaks.isEmpty() && r.breaks.get(0).kind == 3;
            case "pieces": { int n = wantNumber(1, 61); return r -> r.pieces.size() >= n; }
            case "waved": { int n = wantNumber(0, 99); return r -> r.breaks.stream().filter(b -> b.kind == 1).count() >= n; }
            case "late": { int n = wantNumber(0, 99); return r -> r.breaks.stream().filter(b -> b.kind == 2).count() >= n; }
            case "offs": { int n = wantNumber(0, 99); return r -> r.offs >= n; }
            case "first": { int n = wantNumber(0, 59); return r -> !r.breaks.isEmpty() && r.breaks.get(0).cell == n; }
            case "longest": { int n = wantNumber(1, 60); return r -> Collections.max(r.pieces) >= n; }
            case "shortest": { int n = wantNumber(1, 60); return r -> Collections.min(r.pieces) <= n; }
            default: { int n = wantNumber(0, 999); return r -> !r.breaks.isEmpty() && r.breaks.get(0).tick >= n; }
        }
    }

    // ---- runs, TICK by TICK

    static int ticksOf(List<Step> d) { return d.stream().mapToInt(Step::ticks).sum(); }

    static List<Step> paced(List<Step> d, int p) {
        List<Step> all = new ArrayList<>();
        for (Step st : d) all.add(new Step(st.word, st.by / p, st.ticks * p));
        return all;
    }

    /** The STEP of a TICK, done to BEND and TURN. */
    static void step(List<Step> d, int t, int[] bendTurn) {
        int begin = 0;
        for (Step st : d) {
            if (t >= begin && t < begin + st.ticks) {
                if (st.word.equals("bend")) bendTurn[0] += st.by;
                if (st.word.equals("back")) bendTurn[0] = Math.max(0, bendTurn[0] - st.by);
                if (st.word.equals("turn")) bendTurn[1] += st.by;
            }
            begin += st.ticks;
        }
    }

    static int[] bent(List<Step> d, int t) {
        int[] bt = new int[2];
        for (int i = 0; i <= t; i++) step(d, i, bt);
        return bt;
    }

    Run go(Rod rod, List<Step> d, int seed) { return new Going(rod, d, seed, null, false).run(); }
    Run go(Rod rod, List<Step> d, int seed, Integer turned) { return new Going(rod, d, seed, turned, false).run(); }

    final class Going {
        final Rod rod;
        final List<Step> d;
        final int[] strength;
        final Integer turned;
        final boolean alone;
        final Run r = new Run();
        final int[] bt = new int[2];
        final Break[] brokenBy;

        Going(Rod rod, List<Step> d, int seed, Integer turned, boolean alone) {
            this.rod = rod;
            this.d = d;
            this.strength = rod.strengths(seed);
            this.turned = turned;
            this.alone = alone;
            r.n = rod.n();
            r.letGo = new boolean[r.n];
            r.ahead = law("run") - law("twist");
            brokenBy = new Break[r.n];
        }

        int load(int i) {
            if (r.letGo[i]) return 0;
            int l = bt[0] * rod.shape(i) / (10 * rod.cells.get(i).stiff);
            if (i == 0 || i == r.n - 1) l += bt[0] * law("fingers") / 100;
            return l;
        }

        Run run() {
            int all = ticksOf(d);
            int t = 0;
            while (true) {
                if (t == 4000) break;
                if (r.breaks.isEmpty() && t >= all) break;
                if (!r.breaks.isEmpty() && r.waves.stream().allMatch(w -> w.over)) break;
                if (r.breaks.isEmpty()) step(d, t, bt);
                for (Wave w : new ArrayList<>(r.waves)) {
                    if (!w.over && t == w.tick + law("run") * (w.k + 1)) come(w, t);
                }
                if (r.breaks.isEmpty()) firstBreak(t);
                t++;
            }
            r.ticks = t;
            r.bend = bt[0];
            r.turn = bt[1];
            int length = 0;
            for (int i = 0; i < r.n; i++) {
                length++;
                if (brokenBy[i] != null) { r.pieces.add(length); length = 0; }
            }
            if (length > 0) r.pieces.add(length);
            return r;
        }

        void firstBreak(int t) {
            int best = -1;
            for (int i = 0; i < r.n; i++) {
                int over = load(i) - strength[i];
                if (over > 0 && (best < 0 || over > load(best) - strength[best])) best = i;
            }
            if (best < 0) return;
            int kind = best == 0 || best == r.n - 1 ? 3 : strength[best] < rod.cells.get(best).strong ? 4 : 0;
            breakAt(best, t, kind, load(best));
        }

        void breakAt(int c, int t, int kind, int cause) {
            Break b = new Break();
            b.cell = c; b.tick = t; b.kind = kind; b.cause = cause;
            r.breaks.add(b);
            brokenBy[c] = b;
            int amount = (int) Math.min(1000000L, (long) cause * law("bounce") / 100);
            begin(c, -1, t, amount, false);
            begin(c, 1, t, amount, false);
        }

        void begin(int from, int dir, int t, int amount, boolean echo) {
            if (r.waves.size() == 200) return;
            Wave w = new Wave();
            w.from = from; w.dir = dir; w.tick = t; w.amount = amount; w.now = amount; w.echo = echo;
            r.waves.add(w);
        }

        void come(Wave w, int t) {
            w.k++;
            int c = w.from + w.dir * w.k;
            if (c < 0 || c >= r.n || brokenBy[c] != null) {
                w.over = true;
                if (!w.echo && w.now * law("echo") / 100 != 0) begin(c, -w.dir, t, w.now * law("echo") / 100, true);
                return;
            }
            int stuff = rod.cells.get(c).stuff;
            if (stuff != 1) w.now = w.now * (100 - law("die")) / 100;
            if (stuff == 2) w.now = w.now * law("ring") / 100;
            if (w.now == 0) { w.over = true; return; }
            w.came++;
            int both = load(c) + w.now;
            int turn = turned == null ? bt[1] : turned;
            int off = law("twist") > law("run") ? 0 : turn * law("takes") / 100;
            if (alone) {
                if (!w.echo && (both > r.greatest || both == r.greatest && c < r.greatestCell)) {
                    r.greatest = both; r.greatestCell = c; r.above = both - strength[c];
                }
            } else if (both - off > strength[c]) {
                w.over = true;
                breakAt(c, t, w.echo ? 2 : 1, both - off);
                return;
            } else if (both > strength[c]) {
                r.offs++;
            }
            r.letGo[c] = true;
        }
    }

    // ---- the kept run

    long kept(String name, int[] p) {
        switch (name) {
            case "broke": no(p[0] < 0, -2); in(p[1], 0, 3, -2); break;
            case "wave": no(p[0] < 0, -2); in(p[1], 0, 5, -2); break;
            case "piece": case "flies": no(p[0] < 0, -2); break;
            case "run": in(p[0], 0, 7, -2); break;
            case "film": in(p[0], 0, 3, -2); break;
            case "keep": in(p[0], 0, 3, -2); in(p[1], 0, 1, -2); break;
            default: break;
        }
        no(s.kept == null, -5);
        Run r = s.kept;
        switch (name) {
            case "broke": {
                no(p[0] >= r.breaks.size(), -2);
                Break b = r.breaks.get(p[0]);
                return new int[] {b.cell, b.tick, b.kind, b.cause}[p[1]];
            }
            case "wave": {
                no(p[0] >= r.waves.size(), -2);
                Wave w = r.waves.get(p[0]);
                return new int[] {w.from, w.dir < 0 ? 0 : 1, w.tick, w.amount, w.echo ? 1 : 0, w.came}[p[1]];
            }
            case "piece": no(p[0] >= r.pieces.size(), -2); return r.pieces.get(p[0]);
            case "flies": no(p[0] >= r.pieces.size(), -2); return flies(r, p[0]);
            case "run": {
                int let = 0;
                for (boolean b : r.letGo) if (b) let++;
                return new int[] {r.breaks.size(), r.pieces.size(), r.waves.size(), r.offs, r.ticks, r.bend, r.turn, let}[p[0]];
            }
            case "why":
                return r.breaks.size() < 2 ? 0 : r.ahead * Math.abs(r.breaks.get(0).cell - r.breaks.get(1).cell);
            case "film": no(rows[p[0]] == null, -6); return holds(r, rows[p[0]]) ? 1 : 0;
            default: {
                no(rows[p[0]] == null, -6);
                List<Integer> all = p[1] == 0 ? r.pieces : ticks(r);
                int n = Math.min(all.size(), rows[p[0]].v.length);
                for (int i = 0; i < n; i++) put(rows[p[0]], i, all.get(i));
                return n;
            }
        }
    }

    static List<Integer> ticks(Run r) {
        List<Integer> all = new ArrayList<>();
        for (Break b : r.breaks) all.add(b.tick);
        return all;
    }

    static int flies(Run r, int i) {
        int last = -1;
        for (int k = 0; k <= i; k++) last += r.pieces.get(k);
        int first = last - r.pieces.get(i) + 1;
        int sum = 0;
        for (Break b : r.breaks) if (b.cell == last || b.cell == first - 1) sum += b.cause;
        return sum / r.pieces.get(i);
    }

    static boolean holds(Run r, Row row) { return upTo(row, v -> v < 0).equals(longs(ticks(r))); }
    static boolean hasPieces(Run r, Row row) { return upTo(row, v -> v == 0).equals(longs(r.pieces)); }

    static List<Long> longs(List<Integer> all) {
        List<Long> l = new ArrayList<>();
        for (int v : all) l.add((long) v);
        return l;
    }

    static List<Long> upTo(Row row, Predicate<Long> end) {
        List<Long> l = new ArrayList<>();
        for (long v : row.v) { if (end.test(v)) break; l.add(v); }
        return l;
    }

    // ---- asked by runs that aren't kept

    List<Run> runs(Rod r, List<Step> d, int n) {
        List<Run> all = new ArrayList<>();
        for (int seed = 1; seed <= n; seed++) all.add(go(r, d, seed));
        return all;
    }

    static int firstOf(List<Run> runs, Predicate<Run> p) {
        for (int i = 0; i < runs.size(); i++) if (p.test(runs.get(i))) return i + 1;
        return -1;
    }

    static int howMany(List<Run> runs, Predicate<Run> p) { return (int) runs.stream().filter(p).count(); }

    int leastTurn(Rod r, List<Step> d, int seed) {
        for (int t = 0; t < 1000; t++) if (go(r, d, seed, t).pieces.size() == 2) return t;
        return -1;
    }

    int notched(Rod r, List<Step> d, int seed, int i, int notch) {
        Rod c = r.copy();
        c.cells.get(i).notch = notch;
        return go(c, d, seed, 0).pieces.size();
    }

    long asked(String name, int[] p) {
        switch (name) {
            case "beyond": {
                Rod r = rod(p[0]); List<Step> d = doings(p[1]); in(p[3], 0, 2, -2);
                Run g = new Going(r, d, p[2], null, true).run();
                return new int[] {g.greatest, g.greatestCell, g.above}[p[3]];
            }
            case "odds": {
                Rod r = rod(p[0]); List<Step> d = doings(p[1]); in(p[2], 1, 4, -3); seeds(p[3]);
                return howMany(runs(r, d, p[3]), g -> p[2] == 4 ? g.pieces.size() >= 4 : g.pieces.size() == p[2]);
            }
            case "ends": {
                Rod r = rod(p[0]); List<Step> d = doings(p[1]); in(p[2], 0, r.n() - 1, -2); seeds(p[3]);
                return howMany(runs(r, d, p[3]), g -> g.breaks.stream().anyMatch(b -> b.cell == p[2]));
            }
            case "paced": {
                Rod r = rod(p[0]); List<Step> d = doings(p[1]); in(p[3], 1, 9, -3);
                return go(r, paced(d, p[3]), p[2]).pieces.size();
            }
            case "turned": {
                Rod r = rod(p[0]); List<Step> d = doings(p[1]); in(p[3], 0, 999, -3);
                return go(r, d, p[2], p[3]).pieces.size();
            }
            case "least": return leastTurn(rod(p[0]), doings(p[1]), p[2]);
            case "line": {
                Rod r = rod(p[0]); List<Step> d = doings(p[1]); in(p[3], 1, 9, -3);
                return leastTurn(r, paced(d, p[3]), p[2]);
            }
            case "notched": {
                Rod r = rod(p[0]); List<Step> d = doings(p[1]); in(p[3], 0, r.n() - 1, -2); in(p[4], 0, 99, -3);
                return notched(r, d, p[2], p[3], p[4]);
            }
            case "notch": {
                Rod r = rod(p[0]); List<Step> d = doings(p[1]); in(p[3], 0, 1, -2);
                for (int v = 0; v < 100; v++)
                    for (int i = 0; i < r.n(); i++)
                        if (notched(r, d, p[2], i, v) == 2) return p[3] == 0 ? v : i;
                return -1;
            }
            case "longer": {
                Rod r = rod(p[0]); List<Step> d = doings(p[1]); in(p[3], 3, 60, -3);
                Rod c = new Rod();
                c.flaws = r.flaws;
                for (int i = 0; i < p[3]; i++) c.cells.add(r.cells.get(0).copy());
                return go(c, d, p[2]).pieces.size();
            }
            case "thinner": {
                Rod r = rod(p[0]).copy(); List<Step> d = doings(p[1]); in(p[3], 1, 100, -3);
                for (Cell c : r.cells) {
                    c.stiff = Math.max(1, c.stiff * p[3] / 100);
                    c.strong = Math.max(1, c.strong * p[3] / 100);
                }
                return go(r, d, p[2]).pieces.size();
            }
            case "beside": {
                Rod a = rod(p[0]).copy(); Rod b = rod(p[1]).copy(); List<Step> d = doings(p[2]);
                no(p[0] == p[1] || a.n() != b.n(), -3);
                for (int i = 0; i < a.n(); i++) {
                    int both = a.cells.get(i).stiff + b.cells.get(i).stiff;
                    a.cells.get(i).stiff = both;
                    b.cells.get(i).stiff = both;
                }
                return go(a, d, p[3]).pieces.size() + go(b, d, p[3]).pieces.size();
            }
            default: return sought(name, p);
        }
    }

    long sought(String name, int[] p) {
        switch (name) {
            case "never": {
                List<Step> d = doings(p[0]); seeds(p[1]);
                int set = 0;
                for (int k = 0; k < 4; k++)
                    if (s.rods[k] != null && howMany(runs(s.rods[k], d, p[1]), g -> g.pieces.size() >= 3) == 0) set += 1 << k;
                return set;
            }
            case "read": {
                Rod r = rod(p[0]); in(p[1], 0, 3, -2); in(p[3], 0, 1, -2); seeds(p[2]); no(rows[p[1]] == null, -6);
                int all = 0, likely = -1, most = 0;
                for (int k = 0; k < 4; k++) {
                    int m = howMany(runs(r, s.doings.get(k), p[2]), g -> hasPieces(g, rows[p[1]]));
                    all += m;
                    if (m > most) { most = m; likely = k; }
                }
                return p[3] == 0 ? all : likely;
            }
            case "was": {
                Rod r = rod(p[0]); in(p[1], 0, 3, -2); in(p[3], 0, r.n() - 1, -2); seeds(p[2]); no(rows[p[1]] == null, -6);
                int all = 0;
                for (int k = 0; k < 4; k++)
                    all += howMany(runs(r, s.doings.get(k), p[2]), g -> hasPieces(g, rows[p[1]]) && !g.breaks.isEmpty() && g.breaks.get(0).cell == p[3]);
                return all;
            }
            case "found": {
                in(p[0], 0, s.looks.size() - 1, -2); Rod r = rod(p[1]); List<Step> d = doings(p[2]); in(p[4], 0, 1, -2); seeds(p[3]);
                List<Run> all = runs(r, d, p[3]);
                return p[4] == 0 ? howMany(all, s.looks.get(p[0])) : firstOf(all, s.looks.get(p[0]));
            }
            case "middle": {
                Rod r = rod(p[0]); List<Step> d = doings(p[1]); in(p[3], 0, 3, -2); seeds(p[2]);
                List<Run> all = runs(r, d, p[2]);
                all.removeIf(g -> g.pieces.size() < 3);
                List<Integer> mid = new ArrayList<>();
                for (Run g : all) mid.addAll(g.pieces.subList(1, g.pieces.size() - 1));
                if (p[3] == 0) return all.size();
                if (p[3] == 1) return mid.size();
                if (mid.isEmpty()) return -1;
                return p[3] == 2 ? Collections.min(mid) : Collections.max(mid);
            }
            case "filmed": {
                Rod r = rod(p[0]); List<Step> d = doings(p[1]); in(p[2], 0, 3, -2); in(p[4], 0, 1, -2); seeds(p[3]); no(rows[p[2]] == null, -6);
                List<Run> all = runs(r, d, p[3]);
                return p[4] == 0 ? howMany(all, g -> holds(g, rows[p[2]])) : firstOf(all, g -> holds(g, rows[p[2]]));
            }
            case "swapped": {
                Rod r = rod(p[0]).copy(); List<Step> d = doings(p[1]);
                Collections.reverse(r.cells);
                return go(r, d, p[2]).pieces.size();
            }
            case "grid": {
                Rod r = rod(p[0]); List<Step> d = doings(p[1]);
                int all = 0;
                for (int q = 1; q <= 9; q++)
                    for (int t = 0; t <= 950; t += 50)
                        if (go(r, paced(d, q), p[2], t).pieces.size() == 2) all++;
                return all;
            }
            default: throw new IllegalStateException(name);
        }
    }
}
