import java.lang.reflect.Method;
import java.lang.reflect.Modifier;
import java.util.ArrayList;
import java.util.HashMap;
import java.util.List;
import java.util.Map;
import java.util.Random;

/** Drawn runs of calls, each held against PlainRod; the draws are the same at each time. */
public final class ModelTest {
    private static final Map<String, Method> FACE = new HashMap<>();
    private static int wrong = 0;
    private static int calls = 0;

    private final Random r;
    private final boolean small;
    private final RodInThree x = new RodInThree();
    private final PlainRod model = new PlainRod();
    private final List<String> told = new ArrayList<>();
    private int made = 0;

    private ModelTest(long seed, boolean small) {
        r = new Random(seed);
        this.small = small;
    }

    public static void main(String[] args) throws Exception {
        for (Method m : RodInThree.class.getDeclaredMethods()) {
            if (Modifier.isPublic(m.getModifiers())) FACE.put(m.getName(), m);
        }
        int smalls = args.length > 0 ? Integer.parseInt(args[0]) : 150;
        int bigs = args.length > 1 ? Integer.parseInt(args[1]) : 60;
        long base = args.length > 2 ? Long.parseLong(args[2]) : 1;
        for (int i = 0; i < smalls && wrong < 10; i++) new ModelTest(base * 100000 + i, true).play();
        for (int i = 0; i < bigs && wrong < 10; i++) new ModelTest(base * 100000 + 50000 + i, false).play();
        System.out.println(wrong == 0 ? calls + " calls are as the model's" : wrong + " runs of calls are not as the model's");
        if (wrong != 0) System.exit(1);
    }

    // ---- calls on both

    private boolean same(String name, long... a) throws Exception {
        Method m = FACE.get(name);
        Object[] p = new Object[a.length];
        for (int i = 0; i < a.length; i++) {
            Class<?> c = m.getParameterTypes()[i];
            p[i] = c == long.class ? (Object) a[i] : c == boolean.class ? (Object) (a[i] != 0) : (Object) (int) a[i];
        }
        long got = ((Number) m.invoke(x, p)).longValue();
        long want = model.call(name, a);
        made++;
        calls++;
        told.add(name + java.util.Arrays.toString(a) + " = " + got);
        if (got == want) return true;
        wrong++;
        System.out.println("the model answers " + want + ":");
        for (String t : told) System.out.println("    " + t);
        return false;
    }

    private boolean feedText(int what, int k, String text) throws Exception {
        if (text.length() > 400) text = text.substring(0, 400);
        StringBuilder padded = new StringBuilder(text);
        while (padded.length() % 20 != 0) padded.append(' ');
        told.add("    \"" + text.replace("\n", "\\n") + "\"");
        for (int i = 0; i < padded.length(); i += 20) {
            long[] a = new long[5];
            for (int j = 0; j < 20; j++) a[j / 4] = (a[j / 4] << 8 | padded.charAt(i + j) & 255);
            for (int j = 0; j < 5; j++) a[j] = (int) a[j];
            if (!same("feed", a)) return false;
        }
        return same("text", what, k, text.length()) && same("fault", 0) && same("fault", 1);
    }

    // ---- texts that are drawn

    private int in(int least, int most) { return least + r.nextInt(most - least + 1); }
    private boolean odd(int of) { return r.nextInt(of) == 0; }
    private String pick(String... of) { return of[r.nextInt(of.length)]; }

    private int edge(int least, int most) {
        return odd(12) ? least : odd(12) ? most : in(least, most);
    }

    private String rodText() {
        int n = small ? in(3, 9) : odd(3) ? 60 : in(3, 60);
        StringBuilder b = new StringBuilder("cells " + n + ";");
        int lines = odd(6) ? in(15, 24) : in(0, 6);
        for (int i = 0; i < lines; i++) {
            switch (in(0, 6)) {
                case 0 -> b.append("stiff ").append(odd(3) ? edge(1, 99) : in(5, 15)).append(spans(n));
                case 1, 2 -> b.append("strong ").append(odd(4) ? edge(1, 999) : in(50, 150)).append(spans(n));
                case 3 -> b.append("notch ").append(edge(0, 99)).append(spans(n));
                case 4 -> b.append("flaws ").append(edge(0, 99));
                case 5 -> b.append("glass").append(spans(n));
                default -> b.append("damp").append(spans(n));
            }
            b.append(odd(8) ? " ;\n" : ";");
        }
        return b.toString();
    }

    private String spans(int n) {
        StringBuilder b = new StringBuilder();
        int spans = odd(4) ? 0 : in(1, 3);
        for (int i = 0; i < spans; i++) {
            int a = in(0, n - 1);
            b.append(" at ").append(a);
            if (odd(2)) b.append(" to ").append(in(a, n - 1));
        }
        return b.toString();
    }

    private String doingsText() {
        StringBuilder b = new StringBuilder();
        int steps = odd(8) ? 12 : in(0, 5);
        for (int i = 0; i < steps; i++) {
            String w = pick("bend", "bend", "bend", "back", "turn", "rest");
            b.append(w);
            if (!w.equals("rest")) b.append(' ').append(odd(3) ? edge(0, 99) : in(1, 20));
            b.append(" for ").append(small ? in(1, 12) : edge(1, 200)).append(";");
        }
        return b.toString();
    }

    private String lawText() {
        StringBuilder b = new StringBuilder();
        int lines = odd(8) ? in(15, 24) : in(0, 8);
        for (int i = 0; i < lines; i++) {
            switch (in(0, 7)) {
                case 0 -> b.append("bounce ").append(odd(3) ? edge(0, 200) : in(30, 130));
                case 1 -> b.append("die ").append(odd(3) ? edge(0, 99) : in(0, 20));
                case 2 -> b.append("run ").append(edge(1, 9));
                case 3 -> b.append("twist ").append(edge(1, 9));
                case 4 -> b.append("takes ").append(edge(0, 100));
                case 5 -> b.append("echo ").append(odd(2) ? 100 : edge(0, 100));
                case 6 -> b.append("ring ").append(edge(0, 100));
                default -> b.append("fingers ").append(edge(0, 100));
            }
            b.append(';');
        }
        return b.toString();
    }

    private String looksText() {
        StringBuilder b = new StringBuilder();
        int looks = odd(6) ? 8 : in(0, 4);
        for (int i = 0; i < looks; i++) b.append("seek if ").append(test(in(0, 4))).append(";");
        return b.toString();
    }

    private String test(int deep) {
        if (deep == 0 || odd(3)) return fact();
        return switch (in(0, 4)) {
            case 0 -> "not " + factOf(deep - 1);
            case 1 -> "(" + test(deep - 1) + ")";
            case 2 -> test(deep - 1) + " or " + test(deep - 1);
            default -> test(deep - 1) + " and " + test(deep - 1);
        };
    }

    private String factOf(int deep) {
        return deep == 0 || odd(2) ? fact() : odd(2) ? "not " + factOf(deep - 1) : "(" + test(deep - 1) + ")";
    }

    private String fact() {
        return switch (in(0, 9)) {
            case 0 -> "flawed";
            case 1 -> "crushed";
            case 2 -> "pieces " + (odd(6) ? 61 : in(1, 6));
            case 3 -> "waved " + (odd(6) ? 99 : in(0, 4));
            case 4 -> "late " + (odd(6) ? 99 : in(0, 3));
            case 5 -> "offs " + (odd(6) ? 99 : in(0, 3));
            case 6 -> "first " + (odd(6) ? 59 : in(0, 9));
            case 7 -> "longest " + (odd(6) ? 60 : in(1, 9));
            case 8 -> "shortest " + (odd(6) ? 60 : in(1, 9));
            default -> "behind " + (odd(6) ? 999 : in(0, 40));
        };
    }

    private String textOf(int what) {
        return what == 0 ? rodText() : what == 1 ? doingsText() : what == 2 ? lawText() : looksText();
    }

    /** A text that most often has a FAULT. */
    private String spoilt(String t) {
        StringBuilder b = new StringBuilder(t);
        for (int k = in(1, 2); k > 0; k--) {
            int i = b.length() == 0 ? 0 : in(0, b.length() - 1);
            switch (in(0, 5)) {
                case 0 -> { if (b.length() > 0) b.deleteCharAt(i); }
                case 1 -> b.insert(i, pick(" ", "\n", ";", "(", ")", "1", "0", "99", "9999", "a", "A", ",", "\u00e9", "\u0000"));
                case 2 -> b.insert(i, " " + pick("at", "to", "cells", "stiff", "for", "not", "or", "and", "seek", "if", "bend", "rest", "run", "flawed", "glass") + " ");
                case 3 -> b.setLength(i);
                case 4 -> b.append(textOf(in(0, 3)));
                default -> { while (b.length() < 380 && t.length() > 0) b.append(t); }
            }
        }
        return b.toString();
    }

    // ---- one object

    private void play() throws Exception {
        if (!fillUp()) return;
        int most = small ? 400 : 250;
        while (made < most) {
            if (!(odd(12) ? tellText() : small ? askSmall() : askBig())) return;
        }
        for (int what : new int[] {1, 2, 3, 5, 6, 7}) if (!same("status", what)) return;
        for (int what = -1; what < 36; what++) if (!same("count", what)) return;
    }

    private boolean fillUp() throws Exception {
        if (!same("go", 0, 0, 0) || !askKept()) return false;
        for (int k = 0; k < 3; k++) if (!feedText(0, k, rodText())) return false;
        for (int k = 0; k < 4; k++) if (!feedText(1, k, doingsText())) return false;
        if (!feedText(2, 0, lawText()) || !feedText(3, 0, looksText())) return false;
        for (int k = 0; k < 3; k++) if (!same("row", k, in(0, 3), odd(3) ? edge(0, 60) : in(0, 8))) return false;
        return true;
    }

    private boolean tellText() throws Exception {
        int what = odd(30) ? in(-1, 4) : in(0, 3);
        int k = odd(30) ? in(-1, 4) : what < 2 ? in(0, 3) : 0;
        if (odd(20)) return same("text", what, k, in(-1, 30));
        String t = textOf(what < 0 || what > 3 ? 0 : what);
        return feedText(what, k, odd(3) ? spoilt(t) : t);
    }

    private int aRod() { return odd(40) ? in(-1, 4) : odd(8) ? 3 : in(0, 2); }
    private int someDoings() { return odd(40) ? in(-1, 4) : in(0, 3); }
    private int aSeed() { return odd(4) ? r.nextInt() : in(0, 20); }
    private int aRow() { return odd(30) ? in(-1, 4) : odd(10) ? 3 : in(0, 2); }
    private int seeds() { return odd(40) ? pickOf(-1, 0, 101) : odd(15) ? (small ? 100 : 4) : in(1, small ? 12 : 4); }
    private int pickOf(int... of) { return of[r.nextInt(of.length)]; }
    private int what(int most) { return odd(25) ? pickOf(-1, most + 1) : in(0, most); }
    private int aCell() { return odd(20) ? in(-1, 61) : in(0, small ? 8 : 59); }

    private boolean askSmall() throws Exception {
        int rod = aRod(), d = someDoings(), seed = aSeed();
        return switch (in(0, 40)) {
            case 0 -> same("least", rod, d, seed);
            case 1 -> same("line", rod, d, seed, odd(15) ? pickOf(0, 10) : in(1, 9));
            case 2 -> same("notch", rod, d, seed, what(1));
            case 3 -> same("grid", rod, d, seed);
            default -> askBig();
        };
    }

    private boolean askBig() throws Exception {
        int rod = aRod(), d = someDoings(), seed = aSeed();
        return switch (in(0, 30)) {
            case 0 -> same("rod", rod, what(1));
            case 1 -> same("cell", rod, aCell(), what(4));
            case 2 -> same("strength", rod, aCell(), seed);
            case 3 -> same("bent", d, odd(6) ? pickOf(-1, 0, 3999, 4000) : in(0, small ? 80 : 2500), in(0, 1));
            case 4, 5, 6 -> same("go", rod, d, seed) && askKept() && askKept();
            case 7, 8 -> askKept();
            case 9 -> same("beyond", rod, d, seed, what(2));
            case 10 -> same("odds", rod, d, odd(15) ? pickOf(0, 5) : in(1, 4), seeds());
            case 11 -> same("ends", rod, d, aCell(), seeds());
            case 12 -> same("paced", rod, d, seed, odd(15) ? pickOf(0, 10) : in(1, 9));
            case 13 -> same("turned", rod, d, seed, odd(15) ? pickOf(-1, 1000) : odd(3) ? edge(0, 999) : in(0, 60));
            case 14 -> same("notched", rod, d, seed, aCell(), odd(15) ? pickOf(-1, 100) : edge(0, 99));
            case 15 -> same("longer", rod, d, seed, odd(15) ? pickOf(2, 61) : edge(3, small ? 12 : 60));
            case 16 -> same("thinner", rod, d, seed, odd(15) ? pickOf(0, 101) : edge(1, 100));
            case 17 -> same("beside", rod, aRod(), d, seed);
            case 18 -> same("never", d, seeds());
            case 19 -> keepThen(rod, d, 0);
            case 20 -> keepThen(rod, d, 1);
            case 21, 22 -> same("found", odd(15) ? in(-1, 8) : in(0, 3), rod, d, seeds(), what(1));
            case 23 -> same("middle", rod, d, seeds(), what(3));
            case 24 -> same("swapped", rod, d, seed);
            case 25 -> same("row", aRow(), what(3), odd(10) ? pickOf(-1, 61) : odd(3) ? edge(0, 60) : in(0, 8));
            case 26 -> same("write", aRow(), odd(10) ? pickOf(-1, 60) : in(0, 8), odd(3) ? r.nextLong() : in(-2, 12));
            case 27 -> same("image", odd(10) ? pickOf(-1, 2) : in(0, 1));
            case 28 -> same("restore", odd(10) ? pickOf(-1, 2) : in(0, 1));
            case 29 -> same("status", in(-1, 8));
            default -> same("count", in(-1, 35));
        };
    }

    /** What a RUN left in a ROW is asked for again, so that some of the answers are above 0. */
    private boolean keepThen(int rod, int d, int what) throws Exception {
        int row = aRow();
        if (!same("row", row, odd(2) ? 2 : in(0, 3), odd(2) ? 60 : in(0, 8))) return false;
        if (what == 1) {
            for (int i = 0; i < 60 && model.s.kept != null && i <= model.s.kept.breaks.size(); i++) {
                if (!same("write", row, i, -1)) return false;
            }
        }
        if (!same("go", rod, d, in(1, 3)) || !same("keep", row, what)) return false;
        if (what == 1) {
            int held = model.s.kept == null ? 0 : model.s.kept.breaks.size();
            if (held < 60 && !same("write", row, held, -1)) return false;
            return same("film", row) && same("filmed", rod, d, row, seeds(), what(1));
        }
        int first = model.s.kept == null || model.s.kept.breaks.isEmpty() ? 0 : model.s.kept.breaks.get(0).cell;
        return same("read", rod, row, seeds(), what(1)) && same("was", rod, row, seeds(), odd(3) ? aCell() : first);
    }

    private boolean askKept() throws Exception {
        boolean ok = true;
        for (int what = 0; what < 8 && ok; what++) ok = same("run", what);
        int breaks = model.s.kept == null ? 1 : model.s.kept.breaks.size();
        int waves = model.s.kept == null ? 1 : model.s.kept.waves.size();
        int pieces = model.s.kept == null ? 1 : model.s.kept.pieces.size();
        for (int k = 0; k < 3 && ok; k++) {
            ok = same("broke", odd(10) ? pickOf(-1, breaks) : in(0, Math.max(0, breaks - 1)), what(3))
                && same("wave", odd(10) ? pickOf(-1, waves) : in(0, Math.max(0, waves - 1)), what(5))
                && same("piece", odd(10) ? pickOf(-1, pieces) : in(0, pieces - 1))
                && same("flies", odd(10) ? pickOf(-1, pieces) : in(0, pieces - 1));
        }
        return ok && same("why") && same("film", aRow()) && same("keep", aRow(), what(1));
    }
}
