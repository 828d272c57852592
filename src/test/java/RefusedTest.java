import java.util.ArrayList;
import java.util.Arrays;
import java.util.LinkedHashMap;
import java.util.List;
import java.util.Map;

/**
 * Each call with each argument at its bounds, next to them and far beyond, in all combinations: by which
 * code it is refused (of several by that which the call tells first), that it is counted so, and that
 * nothing else is changed; nor is anything by calls that only ask.
 */
public final class RefusedTest extends Due {
    private static final int MIN = Integer.MIN_VALUE;
    private static final int MAX = Integer.MAX_VALUE;
    private static final int[] STATUSES = {1, 2, 3, 5, 6, 7};
    private static final List<String> CHANGING = List.of("text", "go", "row", "write", "keep", "image", "restore");

    private interface Call {
        long of(RodInThree x, int[] a);
    }

    /** What a call is due to answer as a refusal; 0: it isn't refused. */
    private interface Code {
        int by(int[] a);
    }

    /** Values of one argument, each with the code that is due by it alone; 0: none. */
    private record Arg(int[] values, int[] codes) {
        int codeOf(int v) {
            for (int i = 0; i < values.length; i++) {
                if (values[i] == v) return codes[i];
            }
            throw new IllegalStateException("no value " + v);
        }
    }

    private static Arg within(int least, int most, int code) {
        return new Arg(new int[] {least, most, least - 1, most + 1, MIN, MAX}, new int[] {0, 0, code, code, code, code});
    }

    private static final Arg ROD = new Arg(new int[] {0, 1, 3, -1, 4, MIN, MAX}, new int[] {0, 0, -2, -2, -2, -2, -2});
    private static final Arg ROW = new Arg(new int[] {0, 2, 3, -1, 4, MIN, MAX}, new int[] {0, 0, -6, -2, -2, -2, -2});
    private static final Arg ROW_UNKEPT = new Arg(new int[] {0, 2, 3, -1, 4, MIN, MAX}, new int[] {-5, -5, -5, -2, -2, -2, -2});
    private static final Arg UNKEPT = new Arg(new int[] {0, 99, MAX, -1, MIN}, new int[] {-5, -5, -5, -2, -2});
    private static final Arg SEED = new Arg(new int[] {MIN, MAX}, new int[] {0, 0});
    private static final Arg DOINGS = within(0, 3, -2);
    private static final Arg CELL = within(0, 4, -2);
    private static final Arg SEEDS = within(1, 100, -3);

    public static void main(String[] args) {
        texts();
        keptRun();
        noKeptRun();
        askedByRuns();
        looksAndFilms();
        rowsAndImages();
        neverRefused();
        fullTape();
        faults();
        end();
    }

    private static void texts() {
        all(3, "text", (x, a) -> x.text(a[0], a[1], a[2]), true, RefusedTest::textCode,
            new Arg(new int[] {0, 1, 2, 3, -1, 4, MIN, MAX}, new int[8]), new Arg(new int[] {0, 1, 3, -1, 4, MIN, MAX}, new int[7]), within(0, 20, -3));
        all(5, "rod", (x, a) -> x.rod(a[0], a[1]), true, null, ROD, within(0, 1, -2));
        all(6, "cell", (x, a) -> x.cell(a[0], a[1], a[2]), true, null, ROD, CELL, within(0, 4, -2));
        all(7, "strength", (x, a) -> x.strength(a[0], a[1], a[2]), true, null, ROD, CELL, SEED);
        all(8, "bent", (x, a) -> x.bent(a[0], a[1], a[2] == 1), true, null, DOINGS, within(0, 3999, -3),
            new Arg(new int[] {0, 1}, new int[2]));
    }

    private static int textCode(int[] a) {
        if (a[0] < 0 || a[0] > 3 || a[1] < 0 || a[1] > (a[0] < 2 ? 3 : 0)) return -2;
        if (a[2] < 0 || a[2] > 20) return -3;
        // On THE TAPE is a LINE of a LAW; no ROD is without LINES.
        boolean isRead = a[0] == 2 || a[2] == 0 && a[0] != 0;
        return isRead ? 0 : -12;
    }

    private static void keptRun() {
        all(9, "go", (x, a) -> x.go(a[0], a[1], a[2]), true, null, ROD, DOINGS, SEED);
        all(10, "broke", (x, a) -> x.broke(a[0], a[1]), true, null, within(0, 1, -2), within(0, 3, -2));
        all(11, "piece", (x, a) -> x.piece(a[0]), true, null, within(0, 2, -2));
        all(12, "wave", (x, a) -> x.wave(a[0], a[1]), true, null, within(0, 3, -2), within(0, 5, -2));
        all(13, "run", (x, a) -> x.run(a[0]), true, null, within(0, 7, -2));
        all(14, "why", (x, a) -> x.why(), true, null);
        all(15, "film", (x, a) -> x.film(a[0]), true, null, ROW);
        all(36, "flies", (x, a) -> x.flies(a[0]), true, null, within(0, 2, -2));
        all(39, "keep", (x, a) -> x.keep(a[0], a[1]), true, null, ROW, within(0, 1, -2));
    }

    /** -2 is for a what, an i below 0 and ROWS that are none; all else is -5. */
    private static void noKeptRun() {
        Arg what = within(0, 3, -2);
        all(10, "broke", (x, a) -> x.broke(a[0], a[1]), false, null, UNKEPT, what);
        all(11, "piece", (x, a) -> x.piece(a[0]), false, null, UNKEPT);
        all(12, "wave", (x, a) -> x.wave(a[0], a[1]), false, null, UNKEPT, within(0, 5, -2));
        all(13, "run", (x, a) -> x.run(a[0]), false, a -> a[0] < 0 || a[0] > 7 ? -2 : -5, within(0, 7, -2));
        all(14, "why", (x, a) -> x.why(), false, a -> -5);
        all(15, "film", (x, a) -> x.film(a[0]), false, null, ROW_UNKEPT);
        all(36, "flies", (x, a) -> x.flies(a[0]), false, null, UNKEPT);
        all(39, "keep", (x, a) -> x.keep(a[0], a[1]), false, null, ROW_UNKEPT, within(0, 1, -2));
    }

    private static void askedByRuns() {
        all(16, "beyond", (x, a) -> x.beyond(a[0], a[1], a[2], a[3]), true, null, ROD, DOINGS, SEED, within(0, 2, -2));
        all(17, "odds", (x, a) -> x.odds(a[0], a[1], a[2], a[3]), true, null, ROD, DOINGS, within(1, 4, -3), SEEDS);
        all(18, "ends", (x, a) -> x.ends(a[0], a[1], a[2], a[3]), true, null, ROD, DOINGS, CELL, SEEDS);
        all(19, "paced", (x, a) -> x.paced(a[0], a[1], a[2], a[3]), true, null, ROD, DOINGS, SEED, within(1, 9, -3));
        all(20, "turned", (x, a) -> x.turned(a[0], a[1], a[2], a[3]), true, null, ROD, DOINGS, SEED, within(0, 999, -3));
        all(21, "least", (x, a) -> x.least(a[0], a[1], a[2]), true, null, ROD, DOINGS, SEED);
        all(22, "line", (x, a) -> x.line(a[0], a[1], a[2], a[3]), true, null, ROD, DOINGS, SEED, within(1, 9, -3));
        all(23, "notched", (x, a) -> x.notched(a[0], a[1], a[2], a[3], a[4]), true, null, ROD, DOINGS, SEED, CELL, within(0, 99, -3));
        all(24, "notch", (x, a) -> x.notch(a[0], a[1], a[2], a[3]), true, null, ROD, DOINGS, SEED, within(0, 1, -2));
        all(25, "longer", (x, a) -> x.longer(a[0], a[1], a[2], a[3]), true, null, ROD, DOINGS, SEED, within(3, 60, -3));
        all(26, "thinner", (x, a) -> x.thinner(a[0], a[1], a[2], a[3]), true, null, ROD, DOINGS, SEED, within(1, 100, -3));
        Arg anyRod = new Arg(new int[] {0, 1, 2, 3, -1, 4, MIN, MAX}, new int[] {0, 0, 0, -2, -2, -2, -2, -2});
        all(27, "beside", (x, a) -> x.beside(a[0], a[1], a[2], a[3]), true, RefusedTest::besideCode, anyRod, anyRod, DOINGS, SEED);
        all(28, "never", (x, a) -> x.never(a[0], a[1]), true, null, DOINGS, SEEDS);
        all(29, "read", (x, a) -> x.read(a[0], a[1], a[2], a[3]), true, null, ROD, ROW, SEEDS, within(0, 1, -2));
        all(30, "was", (x, a) -> x.was(a[0], a[1], a[2], a[3]), true, null, ROD, ROW, SEEDS, CELL);
    }

    private static int besideCode(int[] a) {
        if (a[0] < 0 || a[0] > 2 || a[1] < 0 || a[1] > 2 || a[2] < 0 || a[2] > 3) return -2;
        return a[0] == a[1] || a[0] == 2 || a[1] == 2 ? -3 : 0;
    }

    private static void looksAndFilms() {
        all(31, "found", (x, a) -> x.found(a[0], a[1], a[2], a[3], a[4]), true, null, within(0, 1, -2), ROD, DOINGS, SEEDS, within(0, 1, -2));
        all(32, "middle", (x, a) -> x.middle(a[0], a[1], a[2], a[3]), true, null, ROD, DOINGS, SEEDS, within(0, 3, -2));
        all(33, "filmed", (x, a) -> x.filmed(a[0], a[1], a[2], a[3], a[4]), true, null, ROD, DOINGS, ROW, SEEDS, within(0, 1, -2));
        all(34, "swapped", (x, a) -> x.swapped(a[0], a[1], a[2]), true, null, ROD, DOINGS, SEED);
        all(35, "grid", (x, a) -> x.grid(a[0], a[1], a[2]), true, null, ROD, DOINGS, SEED);
    }

    private static void rowsAndImages() {
        all(37, "row", (x, a) -> x.row(a[0], a[1], a[2]), true, null, within(0, 3, -2), within(0, 3, -2), within(0, 60, -3));
        // ROW 0 has three numbers, ROW 2 none, ROW 3 is MISSING.
        all(38, "write", (x, a) -> x.write(a[0], a[1], a[2]), true, null, new Arg(new int[] {0, 3, -1, 4, MIN, MAX}, new int[] {0, -6, -2, -2, -2, -2}),
            within(0, 2, -7), SEED);
        all(38, "write of none", (x, a) -> x.write(2, a[0], 1), true, a -> -7, within(0, 59, -7));
        all(40, "image", (x, a) -> x.image(a[0]), true, null, within(0, 1, -2));
        all(41, "restore", (x, a) -> x.restore(a[0]), true, null, new Arg(new int[] {0, 1, 2, -1, MIN, MAX}, new int[] {0, -5, -2, -2, -2, -2}));
    }

    /** NONE for others isn't a refusal. */
    private static void neverRefused() {
        RodInThree x = full(true);
        Map<String, Long> before = statuses(x);
        for (int what : new int[] {2, -1, MIN, MAX}) due(4, "fault(" + what + ")", x.fault(what), NONE);
        for (int what : new int[] {0, 4, 8, -1, -2, -3, -5, -6, -7, 10, MIN, MAX}) due(42, "status(" + what + ")", x.status(what), NONE);
        for (int what : new int[] {-1, 12, 13, 19, 24, 29, 34, MIN, MAX}) due(43, "count(" + what + ")", x.count(what), NONE);
        same(42, "what is NONE isn't refused", before, statuses(x));
    }

    private static void fullTape() {
        RodInThree x = full(true);
        RodInThree y = full(true);
        for (int i = 0; i < 19; i++) {
            x.feed(0x20202020, 0x20202020, 0x20202020, 0x20202020, 0x20202020);
            y.feed(0x20202020, 0x20202020, 0x20202020, 0x20202020, 0x20202020);
        }
        due(2, "feed beyond 400", x.feed(-1, -1, -1, -1, -1), -5);
        Map<String, Long> want = whatIsThere(y);
        want.merge("status(5)", 1L, Long::sum);
        same(2, "feed beyond 400", want, whatIsThere(x));
    }

    /** What there was stays with a FAULT; THE TAPE is empty then. */
    private static void faults() {
        String[] texts = {"cells 9;glass;?", "bend 9 for 9;turn 1", "bounce 9;die 100;", "seek if crushed;seek if " + times(9, "not ")};
        int[] kinds = {1, 2, 3, 5};
        int[] places = {14, 19, 13, 56};
        for (int what = 0; what < 4; what++) {
            RodInThree x = full(true);
            x.text(2, 0, 0);
            tellLaw(x);
            feedText(x, texts[what]);
            due(3, texts[what], x.text(what, 0, texts[what].length()), -10 - kinds[what]);
            Map<String, Long> want = whatIsThere(full(true));
            want.merge("status(1)", 1L, Long::sum);
            want.put("fault(0)", (long) kinds[what]);
            want.put("fault(1)", (long) places[what]);
            want.put("count(0)", 0L);
            want.put("text of THE TAPE", -3L);
            want.put("count(3) of THE TAPE", 0L);
            same(3, texts[what], want, whatIsThere(x));
        }
    }

    // ---- helpers

    private static void tellLaw(RodInThree x) {
        tell(x, 2, 0, "bounce 50;die 0;run 3;twist 2;");
    }

    /**
     * RODS 0 and 1 with 5 cells, 2 with 4; all DOINGS; 2 LOOKS; ROW 0 holds the TICKS of the KEPT RUN (2 BREAKS, 3
     * PIECES, 4 WAVES), ROW 1 its PIECES, ROW 2 no number; IMAGE 0 is another state; a FAULT; 20 bytes on THE TAPE.
     */
    private static RodInThree full(boolean isKept) {
        RodInThree x = new RodInThree();
        tell(x, 0, 0, "cells 5;strong 999;strong 100 at 2;strong 150 at 3;");
        tell(x, 1, 0, "bend 10 for 20;");
        tell(x, 2, 0, "bounce 1;echo 7;");
        tell(x, 3, 0, "seek if pieces 1;");
        x.image(0);
        tell(x, 0, 1, "cells 5;stiff 12 at 2;strong 500 at 1;notch 7 at 4;flaws 9;damp at 0;glass at 3;");
        tell(x, 0, 2, "cells 4;");
        tell(x, 1, 1, "bend 3 for 9;back 2 for 4;turn 5 for 6;");
        tell(x, 1, 2, "rest for 1;");
        tell(x, 1, 3, "bend 99 for 200;");
        tellLaw(x);
        tell(x, 3, 0, "seek if pieces 3;seek if crushed;");
        tell(x, 2, 0, "run 2;die;");
        if (isKept) x.go(0, 0, 0);
        tellRow(x, 0, 1, 10, 13, -1);
        tellRow(x, 1, 0, 3, 1, 1, 0);
        x.row(2, 3, 0);
        feedText(x, "die 77;");
        return x;
    }

    private static Map<String, Long> statuses(RodInThree x) {
        Map<String, Long> all = new LinkedHashMap<>();
        for (int what : STATUSES) all.put("status(" + what + ")", (long) x.status(what));
        return all;
    }

    /** All that can be asked about an object; what the asking itself changes comes last. */
    private static Map<String, Long> whatIsThere(RodInThree x) {
        Map<String, Long> all = statuses(x);
        shortly(x, "", all);
        all.put("fault(0)", (long) x.fault(0));
        all.put("fault(1)", (long) x.fault(1));
        for (int k = 0; k < 3; k++) {
            for (int i = 0; i < 5; i++) {
                for (int what = 0; what < 4; what++) all.put("cell(" + k + ", " + i + ", " + what + ")", (long) x.cell(k, i, what));
            }
        }
        for (int k = 0; k < 4; k++) {
            for (int t : new int[] {0, 5, 13, 30}) {
                all.put("bent(" + k + ", " + t + ", false)", (long) x.bent(k, t, false));
                all.put("bent(" + k + ", " + t + ", true)", (long) x.bent(k, t, true));
            }
            all.put("film(" + k + ")", (long) x.film(k));
            all.put("read(0, " + k + ", 1, 0)", (long) x.read(0, k, 1, 0));
        }
        for (int i = 0; i < 4; i++) {
            for (int what = 0; what < 6; what++) all.put("wave(" + i + ", " + what + ")", (long) x.wave(i, what));
        }
        for (int k = 0; k < 4; k++) {
            all.put("write to ROW " + k + " at 4", x.write(k, 4, -1));
            all.put("write to ROW " + k + " at 3", x.write(k, 3, -1));
            all.put("write to ROW " + k + " at 2", x.write(k, 2, 0x1234567890abcdefL));
        }
        all.put("text of THE TAPE", (long) x.text(2, 0, 20));
        all.put("count(3) of THE TAPE", (long) x.count(3));
        all.put("restore(1)", (long) x.restore(1));
        all.put("restore(0)", (long) x.restore(0));
        shortly(x, " of IMAGE 0", all);
        return all;
    }

    private static void shortly(RodInThree x, String of, Map<String, Long> all) {
        for (int what = 0; what < 34; what++) {
            if (what < 12 || what >= 20 && what < 24 || what >= 30) all.put("count(" + what + ")" + of, (long) x.count(what));
        }
        for (int k = 0; k < 4; k++) {
            all.put("rod(" + k + ", 0)" + of, (long) x.rod(k, 0));
            all.put("rod(" + k + ", 1)" + of, (long) x.rod(k, 1));
            all.put("cell(" + k + ", 3, 1)" + of, (long) x.cell(k, 3, 1));
        }
        for (int look = 0; look < 3; look++) all.put("found(" + look + ", 0, 0, 2, 0)" + of, (long) x.found(look, 0, 0, 2, 0));
        for (int what = 0; what < 8; what++) all.put("run(" + what + ")" + of, (long) x.run(what));
        for (int i = 0; i < 3; i++) {
            for (int what = 0; what < 4; what++) all.put("broke(" + i + ", " + what + ")" + of, (long) x.broke(i, what));
            all.put("piece(" + i + ")" + of, (long) x.piece(i));
            all.put("flies(" + i + ")" + of, (long) x.flies(i));
        }
        all.put("why()" + of, (long) x.why());
    }

    private static void same(int promise, String call, Map<String, Long> want, Map<String, Long> got) {
        for (Map.Entry<String, Long> e : want.entrySet()) {
            due(promise, call + ", then " + e.getKey(), got.get(e.getKey()), e.getValue());
        }
    }

    private static int codeOf(Arg[] of, int[] a) {
        int code = 0;
        for (int i = 0; i < of.length; i++) {
            int by = of[i].codeOf(a[i]);
            // Each call tells -2 ahead of -3, that ahead of -5, and so on.
            if (by != 0 && (code == 0 || by > code)) code = by;
        }
        return code;
    }

    private static void all(int promise, String name, Call call, boolean isKept, Code code, Arg... of) {
        Map<String, Long> statuses = statuses(full(isKept));
        Map<String, Long> there = whatIsThere(full(isKept));
        for (int[] a : combinations(of)) {
            String told = name + Arrays.toString(a) + (isKept ? "" : " without a KEPT RUN");
            int want = code == null ? codeOf(of, a) : code.by(a);
            RodInThree x = full(isKept);
            long got = call.of(x, a);
            if (want != 0) due(promise, told, got, want);
            Map<String, Long> refused = new LinkedHashMap<>(statuses);
            if (want != 0) refused.merge("status(" + (want < -10 ? 1 : -want) + ")", 1L, Long::sum);
            same(42, told, refused, statuses(x));
            // All that is there is asked where one argument alone is to blame, and where a call only asks.
            if (want != 0 ? want > -10 && blamed(of, a) <= 1 : !CHANGING.contains(name)) {
                Map<String, Long> due = new LinkedHashMap<>(there);
                due.putAll(refused);
                same(promise, told, due, whatIsThere(x));
            }
        }
    }

    private static int blamed(Arg[] of, int[] a) {
        int blamed = 0;
        for (int i = 0; i < of.length; i++) {
            if (of[i].codeOf(a[i]) != 0) blamed++;
        }
        return blamed;
    }

    private static List<int[]> combinations(Arg[] of) {
        List<int[]> all = new ArrayList<>();
        all.add(new int[of.length]);
        for (int i = 0; i < of.length; i++) {
            List<int[]> more = new ArrayList<>();
            for (int[] a : all) {
                for (int v : of[i].values) {
                    int[] b = a.clone();
                    b[i] = v;
                    more.add(b);
                }
            }
            all = more;
        }
        return all;
    }
}
