import java.util.Arrays;

/** A rod that breaks in three; DOC.md tells its terms (in capitals) and its promises. */
public final class RodInThree {
    public static final int NONE = -1;

    private static final int NO_SUCH = -2;
    private static final int BAD_NUMBER = -3;
    private static final int NOT_NOW = -5;
    private static final int ROW_MISSING = -6;
    private static final int NO_SUCH_NUMBER = -7;
    private static final int FAULT_BASE = -10;
    private static final int BY_FAULT = 1;
    private static final int NOT_BEYOND = -100000;

    private static final int RODS = 4;
    private static final int DOINGS = 4;
    private static final int ROWS = 4;
    private static final int IMAGES = 2;
    private static final int MAX_BYTES = 400;
    private static final int FED_AT_ONCE = 20;
    private static final int MAX_LINES = 24;
    private static final int MAX_STEPS = 12;
    private static final int MAX_LOOKS = 8;
    private static final int MAX_OPEN = 8;
    private static final int MIN_CELLS = 3;
    private static final int MAX_CELLS = 60;
    private static final int MAX_TICKS = 4000;
    private static final int MAX_BREAKS = 60;
    private static final int MAX_WAVES = 200;
    private static final int MAX_AMOUNT = 1000000;
    private static final int MAX_NUMBERS = 60;
    private static final int MAX_SEEDS = 100;
    private static final int MAX_PACE = 9;
    private static final int MAX_TURNED = 999;
    private static final int MAX_NOTCH = 99;
    private static final int MAX_PART = 100;
    private static final int GRID_TURNS = 20;
    private static final int GRID_STEP = 50;
    private static final int OWN_TURN = -1;

    private static final int TEXT_ROD = 0;
    private static final int TEXT_DOINGS = 1;
    private static final int TEXT_LAW = 2;
    private static final int TEXT_LOOKS = 3;

    private static final int CELL_FACTS = 5;
    private static final int GLASS = 1;
    private static final int DAMP = 2;

    private static final int BREAKS = 0;
    private static final int PIECES = 1;
    private static final int WAVES = 2;
    private static final int OFFS = 3;
    private static final int TICKS = 4;
    private static final int BEND = 5;
    private static final int TURN = 6;
    private static final int LET_GO = 7;
    private static final int TOTALS = 8;

    private static final int BREAK_CELL = 0;
    private static final int BREAK_TICK = 1;
    private static final int BREAK_KIND = 2;
    private static final int BREAK_CAUSE = 3;
    private static final int BREAK_FACTS = 4;

    private static final int KIND_FIRST = 0;
    private static final int KIND_WAVED = 1;
    private static final int KIND_LATE = 2;
    private static final int KIND_CRUSHED = 3;
    private static final int KIND_FLAWED = 4;

    private static final int WAVE_CELL = 0;
    private static final int WAVE_SIDE = 1;
    private static final int WAVE_TICK = 2;
    private static final int WAVE_AMOUNT = 3;
    private static final int WAVE_ECHO = 4;
    private static final int WAVE_CAME = 5;
    private static final int WAVE_FACTS = 6;
    private static final int LEFT = 0;
    private static final int RIGHT = 1;

    private static final int BOUNCE = 0;
    private static final int DIE = 1;
    private static final int RUN = 2;
    private static final int TWIST = 3;
    private static final int TAKES = 4;
    private static final int ECHO = 5;
    private static final int RING = 6;
    private static final int FINGERS = 7;
    private static final int LAW_FACTS = 8;
    private static final int[] LAW_WITHOUT = {100, 5, 2, 1, 50, 0, 20, 0};

    /** All words of all texts; a word's number is its place among them, counted from 0 on. */
    private static final String WORDS = "cells stiff strong glass damp notch flaws at to bend back turn rest for bounce die run twist takes echo ring fingers seek if or and not flawed crushed pieces waved late offs first longest shortest behind ";
    private static final int W_CELLS = 0;
    private static final int W_STIFF = 1;
    private static final int W_STRONG = 2;
    private static final int W_GLASS = 3;
    private static final int W_DAMP = 4;
    private static final int W_NOTCH = 5;
    private static final int W_FLAWS = 6;
    private static final int W_AT = 7;
    private static final int W_TO = 8;
    private static final int W_BEND = 9;
    private static final int W_BACK = 10;
    private static final int W_TURN = 11;
    private static final int W_REST = 12;
    private static final int W_FOR = 13;
    private static final int W_BOUNCE = 14;
    private static final int W_FINGERS = 21;
    private static final int W_SEEK = 22;
    private static final int W_IF = 23;
    private static final int W_OR = 24;
    private static final int W_AND = 25;
    private static final int W_NOT = 26;
    private static final int W_FLAWED = 27;
    private static final int W_CRUSHED = 28;
    private static final int W_PIECES = 29;
    private static final int W_WAVED = 30;
    private static final int W_LATE = 31;
    private static final int W_OFFS = 32;
    private static final int W_FIRST = 33;
    private static final int W_LONGEST = 34;
    private static final int W_SHORTEST = 35;
    private static final int W_BEHIND = 36;
    private static final int T_OTHER_WORD = 40;
    private static final int T_NUMBER = 41;
    private static final int T_SEMICOLON = 42;
    private static final int T_OPEN = 43;
    private static final int T_CLOSE = 44;
    private static final int T_END = 45;
    private static final int T_NOTHING = 46;

    /** Bounds of the number behind a word, by the word's number. */
    private static final int[] LEAST = {3, 1, 1, 0, 0, 0, 0, 0, 0, 0, 0, 0, 0, 1,
        0, 0, 1, 1, 0, 0, 0, 0, 0, 0, 0, 0, 0, 0, 0, 1, 0, 0, 0, 0, 1, 1, 0};
    private static final int[] MOST = {60, 99, 999, 0, 0, 99, 99, 0, 0, 99, 99, 99, 0, 200,
        200, 99, 9, 9, 100, 100, 100, 100, 0, 0, 0, 0, 0, 0, 0, 61, 99, 99, 99, 59, 60, 60, 999};

    private static final int FAULT_NO_TOKEN = 1;
    private static final int FAULT_MISPLACED = 2;
    private static final int FAULT_BOUNDS = 3;
    private static final int FAULT_TOO_MANY = 4;
    private static final int FAULT_TOO_DEEP = 5;

    private final Reader reader = new Reader();
    private final State now = new State();
    private final State[] images = new State[IMAGES];
    private final Row[] rows = new Row[ROWS];
    private final int[] refused = new int[8];
    private final Engine engine = new Engine();
    private final Rod changed = new Rod();
    private final int[] drawn = new int[MAX_CELLS];

    public RodInThree() {
        for (int i = 0; i < IMAGES; i++) {
            images[i] = new State();
        }
        for (int i = 0; i < ROWS; i++) {
            rows[i] = new Row();
        }
    }

    // ---- texts

    public int feed(int a, int b, int c, int d, int e) {
        if (reader.fed + FED_AT_ONCE > MAX_BYTES) {
            return refuse(NOT_NOW);
        }
        reader.put(a);
        reader.put(b);
        reader.put(c);
        reader.put(d);
        reader.put(e);
        return reader.fed;
    }

    public int text(int what, int k, int n) {
        if (!isTextPlace(what, k)) {
            return refuse(NO_SUCH);
        }
        if (n < 0 || n > reader.fed) {
            return refuse(BAD_NUMBER);
        }
        reader.begin(n);
        int told = 0;
        if (what == TEXT_ROD) {
            told = reader.readRod();
        } else if (what == TEXT_DOINGS) {
            told = reader.readDoings();
        } else if (what == TEXT_LAW) {
            told = reader.readLaw();
        } else {
            told = reader.readLooks();
        }
        if (reader.fault != 0) {
            refused[BY_FAULT]++;
            return FAULT_BASE - reader.fault;
        }
        adoptText(what, k);
        return told;
    }

    private static boolean isTextPlace(int what, int k) {
        if (what == TEXT_ROD) {
            return k >= 0 && k < RODS;
        }
        if (what == TEXT_DOINGS) {
            return k >= 0 && k < DOINGS;
        }
        return (what == TEXT_LAW || what == TEXT_LOOKS) && k == 0;
    }

    /** Texts are read into copies of the reader's own, so that what there was stays with a FAULT. */
    private void adoptText(int what, int k) {
        if (what == TEXT_ROD) {
            now.rods[k].copyFrom(reader.rod);
        } else if (what == TEXT_DOINGS) {
            now.doings[k].copyFrom(reader.doings);
        } else if (what == TEXT_LAW) {
            now.law.copyFrom(reader.law);
        } else {
            now.looks.copyFrom(reader.looks);
        }
    }

    public int fault(int what) {
        if (what == 0) {
            return reader.fault;
        }
        return what == 1 ? reader.faultPlace : NONE;
    }

    public int rod(int k, int what) {
        if (!hasRod(k) || what < 0 || what > 1) {
            return refuse(NO_SUCH);
        }
        return what == 0 ? now.rods[k].cells : now.rods[k].flaws;
    }

    public int cell(int rod, int i, int what) {
        if (!hasCell(rod, i) || what < 0 || what >= CELL_FACTS) {
            return refuse(NO_SUCH);
        }
        Rod of = now.rods[rod];
        switch (what) {
            case 0:
                return of.stiff[i];
            case 1:
                return of.strong[i];
            case 2:
                return of.notch[i];
            case 3:
                return of.stuff[i];
            default:
                return of.shape[i];
        }
    }

    public int strength(int rod, int i, int seed) {
        if (!hasCell(rod, i)) {
            return refuse(NO_SUCH);
        }
        now.rods[rod].drawStrengths(seed, drawn);
        return drawn[i];
    }

    public int bent(int doings, int t, boolean turn) {
        if (!hasDoings(doings)) {
            return refuse(NO_SUCH);
        }
        if (t < 0 || t >= MAX_TICKS) {
            return refuse(BAD_NUMBER);
        }
        return turn ? now.doings[doings].turnBehind(t + 1, 1) : now.doings[doings].bendBehind(t + 1, 1);
    }

    // ---- the kept run

    public int go(int rod, int doings, int seed) {
        if (!hasRod(rod) || !hasDoings(doings)) {
            return refuse(NO_SUCH);
        }
        int pieces = engine.breakRod(now.rods[rod], now.doings[doings], now.law, seed);
        now.run.copyFrom(engine.out);
        now.isKept = true;
        return pieces;
    }

    public int broke(int i, int what) {
        if (i < 0 || what < 0 || what >= BREAK_FACTS) {
            return refuse(NO_SUCH);
        }
        if (!now.isKept) {
            return refuse(NOT_NOW);
        }
        if (i >= now.run.totals[BREAKS]) {
            return refuse(NO_SUCH);
        }
        return now.run.breaks[what * MAX_BREAKS + i];
    }

    public int piece(int i) {
        int code = codeForPiece(i);
        return code != 0 ? refuse(code) : now.run.pieces[i];
    }

    public int wave(int i, int what) {
        if (i < 0 || what < 0 || what >= WAVE_FACTS) {
            return refuse(NO_SUCH);
        }
        if (!now.isKept) {
            return refuse(NOT_NOW);
        }
        if (i >= now.run.totals[WAVES]) {
            return refuse(NO_SUCH);
        }
        return now.run.waves[what * MAX_WAVES + i];
    }

    public int run(int what) {
        if (what < 0 || what >= TOTALS) {
            return refuse(NO_SUCH);
        }
        if (!now.isKept) {
            return refuse(NOT_NOW);
        }
        return now.run.totals[what];
    }

    public int why() {
        if (!now.isKept) {
            return refuse(NOT_NOW);
        }
        return now.run.turnAhead();
    }

    public int film(int row) {
        if (!isRow(row)) {
            return refuse(NO_SUCH);
        }
        if (!now.isKept) {
            return refuse(NOT_NOW);
        }
        if (!rows[row].isThere) {
            return refuse(ROW_MISSING);
        }
        return now.run.holdsTicks(rows[row]) ? 1 : 0;
    }

    // ---- asked by runs that aren't kept

    public int beyond(int rod, int doings, int seed, int what) {
        if (!hasRod(rod) || !hasDoings(doings) || what < 0 || what > 2) {
            return refuse(NO_SUCH);
        }
        engine.take(now.rods[rod], now.law, seed);
        engine.bendBy(now.doings[doings], 1);
        engine.sendWaves(OWN_TURN, true);
        if (what == 0) {
            return engine.greatest;
        }
        if (what == 1) {
            return engine.greatestCell;
        }
        return engine.aboveStrength();
    }

    public int odds(int rod, int doings, int pieces, int n) {
        if (!hasRod(rod) || !hasDoings(doings)) {
            return refuse(NO_SUCH);
        }
        if (pieces < 1 || pieces > 4 || !areSeeds(n)) {
            return refuse(BAD_NUMBER);
        }
        int runs = 0;
        for (int seed = 1; seed <= n; seed++) {
            int made = engine.breakRod(now.rods[rod], now.doings[doings], now.law, seed);
            if (Math.min(made, 4) == pieces) {
                runs++;
            }
        }
        return runs;
    }

    public int ends(int rod, int doings, int i, int n) {
        if (!hasCell(rod, i) || !hasDoings(doings)) {
            return refuse(NO_SUCH);
        }
        if (!areSeeds(n)) {
            return refuse(BAD_NUMBER);
        }
        int runs = 0;
        for (int seed = 1; seed <= n; seed++) {
            engine.breakRod(now.rods[rod], now.doings[doings], now.law, seed);
            if (engine.out.breakAt(i) != NONE) {
                runs++;
            }
        }
        return runs;
    }

    public int paced(int rod, int doings, int seed, int p) {
        if (!hasRod(rod) || !hasDoings(doings)) {
            return refuse(NO_SUCH);
        }
        if (!isPace(p)) {
            return refuse(BAD_NUMBER);
        }
        engine.take(now.rods[rod], now.law, seed);
        engine.bendBy(now.doings[doings], p);
        return engine.sendWaves(OWN_TURN, false);
    }

    public int turned(int rod, int doings, int seed, int t) {
        if (!hasRod(rod) || !hasDoings(doings)) {
            return refuse(NO_SUCH);
        }
        if (t < 0 || t > MAX_TURNED) {
            return refuse(BAD_NUMBER);
        }
        engine.take(now.rods[rod], now.law, seed);
        engine.bendBy(now.doings[doings], 1);
        return engine.sendWaves(t, false);
    }

    public int least(int rod, int doings, int seed) {
        if (!hasRod(rod) || !hasDoings(doings)) {
            return refuse(NO_SUCH);
        }
        return leastTurn(rod, doings, seed, 1);
    }

    public int line(int rod, int doings, int seed, int p) {
        if (!hasRod(rod) || !hasDoings(doings)) {
            return refuse(NO_SUCH);
        }
        if (!isPace(p)) {
            return refuse(BAD_NUMBER);
        }
        return leastTurn(rod, doings, seed, p);
    }

    private int leastTurn(int rod, int doings, int seed, int pace) {
        engine.take(now.rods[rod], now.law, seed);
        engine.bendBy(now.doings[doings], pace);
        for (int t = 0; t <= MAX_TURNED; t++) {
            // Turns that take off the same make the same RUN.
            boolean isNew = t == 0 || now.law.offBy(t) != now.law.offBy(t - 1);
            if (isNew && engine.sendWaves(t, false) == 2) {
                return t;
            }
        }
        return NONE;
    }

    public int notched(int rod, int doings, int seed, int i, int notch) {
        if (!hasCell(rod, i) || !hasDoings(doings)) {
            return refuse(NO_SUCH);
        }
        if (notch < 0 || notch > MAX_NOTCH) {
            return refuse(BAD_NUMBER);
        }
        changed.copyFrom(now.rods[rod]);
        return piecesNotched(doings, seed, i, notch);
    }

    public int notch(int rod, int doings, int seed, int what) {
        if (!hasRod(rod) || !hasDoings(doings) || what < 0 || what > 1) {
            return refuse(NO_SUCH);
        }
        changed.copyFrom(now.rods[rod]);
        for (int notch = 0; notch <= MAX_NOTCH; notch++) {
            for (int i = 0; i < changed.cells; i++) {
                if (piecesNotched(doings, seed, i, notch) == 2) {
                    return what == 0 ? notch : i;
                }
            }
        }
        return NONE;
    }

    /** Of the ROD that is in 'changed', which is as it was then. */
    private int piecesNotched(int doings, int seed, int i, int notch) {
        int was = changed.notch[i];
        changed.notch[i] = notch;
        engine.take(changed, now.law, seed);
        changed.notch[i] = was;
        engine.bendBy(now.doings[doings], 1);
        return engine.sendWaves(0, false);
    }

    public int longer(int rod, int doings, int seed, int cells) {
        if (!hasRod(rod) || !hasDoings(doings)) {
            return refuse(NO_SUCH);
        }
        if (cells < MIN_CELLS || cells > MAX_CELLS) {
            return refuse(BAD_NUMBER);
        }
        changed.begin(cells);
        changed.flaws = now.rods[rod].flaws;
        for (int i = 0; i < cells; i++) {
            changed.takeCell(i, now.rods[rod], 0);
        }
        return engine.breakRod(changed, now.doings[doings], now.law, seed);
    }

    public int thinner(int rod, int doings, int seed, int part) {
        if (!hasRod(rod) || !hasDoings(doings)) {
            return refuse(NO_SUCH);
        }
        if (part < 1 || part > MAX_PART) {
            return refuse(BAD_NUMBER);
        }
        changed.copyFrom(now.rods[rod]);
        for (int i = 0; i < changed.cells; i++) {
            changed.stiff[i] = Math.max(1, changed.stiff[i] * part / 100);
            changed.strong[i] = Math.max(1, changed.strong[i] * part / 100);
        }
        return engine.breakRod(changed, now.doings[doings], now.law, seed);
    }

    public int beside(int a, int b, int doings, int seed) {
        if (!hasRod(a) || !hasRod(b) || !hasDoings(doings)) {
            return refuse(NO_SUCH);
        }
        if (a == b || now.rods[a].cells != now.rods[b].cells) {
            return refuse(BAD_NUMBER);
        }
        return piecesStiffened(a, b, doings, seed) + piecesStiffened(b, a, doings, seed);
    }

    private int piecesStiffened(int rod, int by, int doings, int seed) {
        changed.copyFrom(now.rods[rod]);
        for (int i = 0; i < changed.cells; i++) {
            changed.stiff[i] += now.rods[by].stiff[i];
        }
        return engine.breakRod(changed, now.doings[doings], now.law, seed);
    }

    public int never(int doings, int n) {
        if (!hasDoings(doings)) {
            return refuse(NO_SUCH);
        }
        if (!areSeeds(n)) {
            return refuse(BAD_NUMBER);
        }
        int set = 0;
        for (int k = 0; k < RODS; k++) {
            if (hasRod(k) && neverThree(k, doings, n)) {
                set |= 1 << k;
            }
        }
        return set;
    }

    private boolean neverThree(int rod, int doings, int n) {
        for (int seed = 1; seed <= n; seed++) {
            if (engine.breakRod(now.rods[rod], now.doings[doings], now.law, seed) >= 3) {
                return false;
            }
        }
        return true;
    }

    public int read(int rod, int row, int n, int what) {
        if (!hasRod(rod) || !isRow(row) || what < 0 || what > 1) {
            return refuse(NO_SUCH);
        }
        if (!areSeeds(n)) {
            return refuse(BAD_NUMBER);
        }
        if (!rows[row].isThere) {
            return refuse(ROW_MISSING);
        }
        int all = 0;
        int most = 0;
        int likely = NONE;
        for (int k = 0; k < DOINGS; k++) {
            int runs = runsLike(rod, k, row, n, NONE);
            all += runs;
            if (runs > most) {
                most = runs;
                likely = k;
            }
        }
        return what == 0 ? all : likely;
    }

    public int was(int rod, int row, int n, int i) {
        if (!hasCell(rod, i) || !isRow(row)) {
            return refuse(NO_SUCH);
        }
        if (!areSeeds(n)) {
            return refuse(BAD_NUMBER);
        }
        if (!rows[row].isThere) {
            return refuse(ROW_MISSING);
        }
        int runs = 0;
        for (int k = 0; k < DOINGS; k++) {
            runs += runsLike(rod, k, row, n, i);
        }
        return runs;
    }

    /** RUNS with the PIECES of a ROW; first: the cell of the first BREAK, NONE for whichever. */
    private int runsLike(int rod, int doings, int row, int n, int first) {
        int runs = 0;
        for (int seed = 1; seed <= n; seed++) {
            engine.breakRod(now.rods[rod], now.doings[doings], now.law, seed);
            boolean isSo = first == NONE || engine.out.breakAt(first) == 0;
            if (isSo && engine.out.hasPieces(rows[row])) {
                runs++;
            }
        }
        return runs;
    }

    // ---- looks, films

    public int found(int look, int rod, int doings, int n, int what) {
        if (look < 0 || look >= now.looks.told || !hasRod(rod) || !hasDoings(doings)
                || what < 0 || what > 1) {
            return refuse(NO_SUCH);
        }
        if (!areSeeds(n)) {
            return refuse(BAD_NUMBER);
        }
        int runs = 0;
        int firstSeed = NONE;
        for (int seed = n; seed >= 1; seed--) {
            engine.breakRod(now.rods[rod], now.doings[doings], now.law, seed);
            if (now.looks.isSo(look, engine.out)) {
                runs++;
                firstSeed = seed;
            }
        }
        return what == 0 ? runs : firstSeed;
    }

    public int middle(int rod, int doings, int n, int what) {
        if (!hasRod(rod) || !hasDoings(doings) || what < 0 || what > 3) {
            return refuse(NO_SUCH);
        }
        if (!areSeeds(n)) {
            return refuse(BAD_NUMBER);
        }
        int runs = 0;
        int between = 0;
        int shortest = NONE;
        int longest = NONE;
        for (int seed = 1; seed <= n; seed++) {
            int made = engine.breakRod(now.rods[rod], now.doings[doings], now.law, seed);
            if (made >= 3) {
                runs++;
                between += made - 2;
            }
            for (int i = 1; i < made - 1; i++) {
                int length = engine.out.pieces[i];
                shortest = shortest == NONE ? length : Math.min(shortest, length);
                longest = Math.max(longest, length);
            }
        }
        switch (what) {
            case 0:
                return runs;
            case 1:
                return between;
            case 2:
                return shortest;
            default:
                return longest;
        }
    }

    public int filmed(int rod, int doings, int row, int n, int what) {
        if (!hasRod(rod) || !hasDoings(doings) || !isRow(row) || what < 0 || what > 1) {
            return refuse(NO_SUCH);
        }
        if (!areSeeds(n)) {
            return refuse(BAD_NUMBER);
        }
        if (!rows[row].isThere) {
            return refuse(ROW_MISSING);
        }
        int runs = 0;
        int firstSeed = NONE;
        for (int seed = n; seed >= 1; seed--) {
            engine.breakRod(now.rods[rod], now.doings[doings], now.law, seed);
            if (engine.out.holdsTicks(rows[row])) {
                runs++;
                firstSeed = seed;
            }
        }
        return what == 0 ? runs : firstSeed;
    }

    public int swapped(int rod, int doings, int seed) {
        if (!hasRod(rod) || !hasDoings(doings)) {
            return refuse(NO_SUCH);
        }
        Rod of = now.rods[rod];
        changed.begin(of.cells);
        changed.flaws = of.flaws;
        for (int i = 0; i < of.cells; i++) {
            changed.takeCell(i, of, of.cells - 1 - i);
        }
        return engine.breakRod(changed, now.doings[doings], now.law, seed);
    }

    public int grid(int rod, int doings, int seed) {
        if (!hasRod(rod) || !hasDoings(doings)) {
            return refuse(NO_SUCH);
        }
        engine.take(now.rods[rod], now.law, seed);
        int runs = 0;
        for (int p = 1; p <= MAX_PACE; p++) {
            engine.bendBy(now.doings[doings], p);
            for (int k = 0; k < GRID_TURNS; k++) {
                if (engine.sendWaves(k * GRID_STEP, false) == 2) {
                    runs++;
                }
            }
        }
        return runs;
    }

    public int flies(int i) {
        int code = codeForPiece(i);
        return code != 0 ? refuse(code) : now.run.flightOf(i);
    }

    // ---- rows, images

    public int row(int row, int sort, int n) {
        if (!isRow(row) || sort < 0 || sort > 3) {
            return refuse(NO_SUCH);
        }
        if (n < 0 || n > MAX_NUMBERS) {
            return refuse(BAD_NUMBER);
        }
        rows[row].begin(sort, n);
        return 0;
    }

    public long write(int row, int i, long v) {
        if (!isRow(row)) {
            return refuse(NO_SUCH);
        }
        if (!rows[row].isThere) {
            return refuse(ROW_MISSING);
        }
        if (i < 0 || i >= rows[row].size) {
            return refuse(NO_SUCH_NUMBER);
        }
        return rows[row].put(i, v);
    }

    public int keep(int row, int what) {
        if (!isRow(row) || what < 0 || what > 1) {
            return refuse(NO_SUCH);
        }
        if (!now.isKept) {
            return refuse(NOT_NOW);
        }
        if (!rows[row].isThere) {
            return refuse(ROW_MISSING);
        }
        int there = what == 0 ? now.run.totals[PIECES] : now.run.totals[BREAKS];
        int written = Math.min(there, rows[row].size);
        for (int i = 0; i < written; i++) {
            rows[row].put(i, what == 0 ? now.run.pieces[i] : now.run.tickOf(i));
        }
        return written;
    }

    public int image(int i) {
        if (i < 0 || i >= IMAGES) {
            return refuse(NO_SUCH);
        }
        images[i].copyFrom(now);
        images[i].isMade = true;
        return 0;
    }

    public int restore(int i) {
        if (i < 0 || i >= IMAGES) {
            return refuse(NO_SUCH);
        }
        if (!images[i].isMade) {
            return refuse(NOT_NOW);
        }
        now.copyFrom(images[i]);
        return 0;
    }

    public int status(int what) {
        switch (what) {
            case BY_FAULT:
            case -NO_SUCH:
            case -BAD_NUMBER:
            case -NOT_NOW:
            case -ROW_MISSING:
            case -NO_SUCH_NUMBER:
                return refused[what];
            default:
                return NONE;
        }
    }

    public int count(int what) {
        if (what == 0) {
            return reader.fed;
        }
        if (what == 1) {
            return now.rodsThere();
        }
        if (what >= 2 && what < 2 + LAW_FACTS) {
            return now.law.facts[what - 2];
        }
        if (what == 10) {
            return now.law.told;
        }
        if (what == 11) {
            return now.looks.told;
        }
        if (what >= 20 && what < 20 + DOINGS) {
            return now.doings[what - 20].told;
        }
        if (what >= 30 && what < 30 + DOINGS) {
            return now.doings[what - 30].allTicks();
        }
        return NONE;
    }

    // ---- what calls have in common

    private int refuse(int code) {
        refused[-code]++;
        return code;
    }

    private boolean hasRod(int k) {
        return k >= 0 && k < RODS && now.rods[k].cells > 0;
    }

    private boolean hasCell(int rod, int i) {
        return hasRod(rod) && i >= 0 && i < now.rods[rod].cells;
    }

    private static boolean hasDoings(int k) {
        return k >= 0 && k < DOINGS;
    }

    private static boolean isRow(int k) {
        return k >= 0 && k < ROWS;
    }

    private static boolean areSeeds(int n) {
        return n >= 1 && n <= MAX_SEEDS;
    }

    private static boolean isPace(int p) {
        return p >= 1 && p <= MAX_PACE;
    }

    /** By what code a call for the i-th PIECE of the KEPT RUN is refused; 0: it isn't. */
    private int codeForPiece(int i) {
        if (i < 0) {
            return NO_SUCH;
        }
        if (!now.isKept) {
            return NOT_NOW;
        }
        return i < now.run.totals[PIECES] ? 0 : NO_SUCH;
    }

    /** A ROD as its text tells it; it isn't there as long as it has no cells. */
    private static final class Rod {
        int cells;
        int flaws;
        final int[] stiff = new int[MAX_CELLS];
        final int[] strong = new int[MAX_CELLS];
        final int[] notch = new int[MAX_CELLS];
        final int[] stuff = new int[MAX_CELLS];
        final int[] shape = new int[MAX_CELLS];

        void begin(int n) {
            cells = Math.min(Math.max(n, 0), MAX_CELLS);
            flaws = 0;
            int across = (cells + 1) * (cells + 1);
            for (int i = 0; i < cells; i++) {
                stiff[i] = 10;
                strong[i] = 100;
                notch[i] = 0;
                stuff[i] = 0;
                shape[i] = (i + 1) * (cells - i) * 400 / across;
            }
        }

        void copyFrom(Rod from) {
            cells = from.cells;
            flaws = from.flaws;
            System.arraycopy(from.stiff, 0, stiff, 0, MAX_CELLS);
            System.arraycopy(from.strong, 0, strong, 0, MAX_CELLS);
            System.arraycopy(from.notch, 0, notch, 0, MAX_CELLS);
            System.arraycopy(from.stuff, 0, stuff, 0, MAX_CELLS);
            System.arraycopy(from.shape, 0, shape, 0, MAX_CELLS);
        }

        /** SHAPE is not taken: it is by where the cell is. */
        void takeCell(int i, Rod from, int j) {
            stiff[i] = from.stiff[j];
            strong[i] = from.strong[j];
            notch[i] = from.notch[j];
            stuff[i] = from.stuff[j];
        }

        void tell(int word, int first, int last, int value) {
            int[] told = stuff;
            if (word == W_STIFF) {
                told = stiff;
            } else if (word == W_STRONG) {
                told = strong;
            } else if (word == W_NOTCH) {
                told = notch;
            }
            for (int i = Math.max(first, 0); i <= last && i < cells; i++) {
                told[i] = value;
            }
        }

        void drawStrengths(int seed, int[] into) {
            int x = seed;
            int range = Math.max(flaws, 0) + 1;
            for (int i = 0; i < cells && i < into.length; i++) {
                int flaw = 0;
                if (flaws > 0) {
                    x = 1103515245 * x + 12345;
                    flaw = (x >>> 16) % range;
                }
                into[i] = Math.max(1, strong[i] * (100 - notch[i]) / 100 - flaw);
            }
        }
    }

    private static final class Doings {
        int told;
        final int[] kind = new int[MAX_STEPS];
        final int[] number = new int[MAX_STEPS];
        final int[] ticks = new int[MAX_STEPS];

        void copyFrom(Doings from) {
            told = from.told;
            System.arraycopy(from.kind, 0, kind, 0, MAX_STEPS);
            System.arraycopy(from.number, 0, number, 0, MAX_STEPS);
            System.arraycopy(from.ticks, 0, ticks, 0, MAX_STEPS);
        }

        void tell(int word, int by, int howLong) {
            if (told < MAX_STEPS) {
                kind[told] = word;
                number[told] = by;
                ticks[told] = howLong;
                told++;
            }
        }

        int allTicks() {
            int all = 0;
            for (int i = 0; i < told; i++) {
                all += ticks[i];
            }
            return all;
        }

        private int byTick(int i, int pace) {
            return number[i] / Math.max(pace, 1);
        }

        private static int bendBehindStep(int bend, int word, int by) {
            if (word == W_BEND) {
                return bend + by;
            }
            return word == W_BACK ? Math.max(0, bend - by) : bend;
        }

        /** BEND as so many TICKS are over. */
        int bendBehind(int over, int pace) {
            int bend = 0;
            int left = over;
            for (int i = 0; i < told && left > 0; i++) {
                int part = Math.min(left, ticks[i] * pace);
                bend = bendBehindStep(bend, kind[i], byTick(i, pace) * part);
                left -= part;
            }
            return bend;
        }

        /** TURN as so many TICKS are over. */
        int turnBehind(int over, int pace) {
            int turn = 0;
            int left = over;
            for (int i = 0; i < told && left > 0; i++) {
                int part = Math.min(left, ticks[i] * pace);
                if (kind[i] == W_TURN) {
                    turn += byTick(i, pace) * part;
                }
                left -= part;
            }
            return turn;
        }

        /** The first TICK behind which BEND is as told (1 at least) or more; NONE, if there is none. */
        int tickOfBend(int goal, int pace) {
            int bend = 0;
            int begin = 0;
            for (int i = 0; i < told; i++) {
                int length = ticks[i] * pace;
                int by = byTick(i, pace);
                if (kind[i] == W_BEND && by > 0 && bend + by * length >= goal) {
                    int tick = begin + (goal - bend + by - 1) / by - 1;
                    return tick < MAX_TICKS ? tick : NONE;
                }
                bend = bendBehindStep(bend, kind[i], by * length);
                begin += length;
            }
            return NONE;
        }
    }

    private static final class Law {
        int told;
        final int[] facts = new int[LAW_FACTS];

        Law() {
            begin();
        }

        void begin() {
            told = 0;
            System.arraycopy(LAW_WITHOUT, 0, facts, 0, LAW_FACTS);
        }

        void copyFrom(Law from) {
            told = from.told;
            System.arraycopy(from.facts, 0, facts, 0, LAW_FACTS);
        }

        int offBy(int turn) {
            return facts[TWIST] <= facts[RUN] ? turn * facts[TAKES] / 100 : 0;
        }

        /** The HIT of a WAVE at a cell of a STUFF, by its AMOUNT at the cell ahead. */
        int hitOn(int stuff, int amount) {
            int hit = amount;
            if (stuff != GLASS) {
                hit = hit * (100 - facts[DIE]) / 100;
            }
            if (stuff == DAMP) {
                hit = hit * facts[RING] / 100;
            }
            return hit;
        }
    }

    /** LOOKS as codes: a FACT puts whether it is so, 'not', 'and', 'or' work on what was put last. */
    private static final class Looks {
        int told;
        final int[] begins = new int[MAX_LOOKS + 1];
        final int[] words = new int[MAX_BYTES];
        final int[] numbers = new int[MAX_BYTES];
        private final int[] put = new int[MAX_BYTES + 1];

        void copyFrom(Looks from) {
            told = from.told;
            System.arraycopy(from.begins, 0, begins, 0, MAX_LOOKS + 1);
            System.arraycopy(from.words, 0, words, 0, MAX_BYTES);
            System.arraycopy(from.numbers, 0, numbers, 0, MAX_BYTES);
        }

        void begin() {
            told = 0;
            begins[0] = 0;
        }

        /** A code of the LOOK that is being told. */
        void tell(int word, int number) {
            int at = begins[told + 1];
            if (at < MAX_BYTES) {
                words[at] = word;
                numbers[at] = number;
                begins[told + 1] = at + 1;
            }
        }

        boolean isSo(int look, Run run) {
            int size = 0;
            for (int i = begins[look]; i < begins[look + 1]; i++) {
                if (words[i] == W_NOT && size >= 1) {
                    put[size - 1] = 1 - put[size - 1];
                } else if (words[i] == W_AND && size >= 2) {
                    size--;
                    put[size - 1] &= put[size];
                } else if (words[i] == W_OR && size >= 2) {
                    size--;
                    put[size - 1] |= put[size];
                } else {
                    put[size] = isFact(words[i], numbers[i], run) ? 1 : 0;
                    size++;
                }
            }
            return size >= 1 && put[0] == 1;
        }

        private static boolean isFact(int word, int n, Run run) {
            boolean broke = run.totals[BREAKS] > 0;
            switch (word) {
                case W_FLAWED:
                    return broke && run.kindOf(0) == KIND_FLAWED;
                case W_CRUSHED:
                    return broke && run.kindOf(0) == KIND_CRUSHED;
                case W_PIECES:
                    return run.totals[PIECES] >= n;
                case W_WAVED:
                    return run.breaksOfKind(KIND_WAVED) >= n;
                case W_LATE:
                    return run.breaksOfKind(KIND_LATE) >= n;
                case W_OFFS:
                    return run.totals[OFFS] >= n;
                case W_FIRST:
                    return broke && run.cellOf(0) == n;
                case W_LONGEST:
                    return run.longestPiece() >= n;
                case W_SHORTEST:
                    return run.shortestPiece() <= n;
                case W_BEHIND:
                    return broke && run.tickOf(0) >= n;
                default:
                    return false;
            }
        }
    }

    /** What there is to tell of a RUN; facts of BREAKS and WAVES lie fact by fact. */
    private static final class Run {
        int ahead;
        final int[] totals = new int[TOTALS];
        final int[] breaks = new int[BREAK_FACTS * MAX_BREAKS];
        final int[] waves = new int[WAVE_FACTS * MAX_WAVES];
        final int[] pieces = new int[MAX_CELLS];

        void copyFrom(Run from) {
            ahead = from.ahead;
            System.arraycopy(from.totals, 0, totals, 0, TOTALS);
            System.arraycopy(from.breaks, 0, breaks, 0, BREAK_FACTS * MAX_BREAKS);
            System.arraycopy(from.waves, 0, waves, 0, WAVE_FACTS * MAX_WAVES);
            System.arraycopy(from.pieces, 0, pieces, 0, MAX_CELLS);
        }

        int cellOf(int i) {
            return breaks[BREAK_CELL * MAX_BREAKS + i];
        }

        int tickOf(int i) {
            return breaks[BREAK_TICK * MAX_BREAKS + i];
        }

        int kindOf(int i) {
            return breaks[BREAK_KIND * MAX_BREAKS + i];
        }

        int breaksOfKind(int kind) {
            int all = 0;
            for (int i = 0; i < totals[BREAKS]; i++) {
                if (kindOf(i) == kind) {
                    all++;
                }
            }
            return all;
        }

        /** Which BREAK was at a cell; NONE, if it isn't broken. */
        int breakAt(int cell) {
            for (int i = 0; i < totals[BREAKS]; i++) {
                if (cellOf(i) == cell) {
                    return i;
                }
            }
            return NONE;
        }

        private int causeAt(int cell) {
            int at = breakAt(cell);
            return at == NONE ? 0 : breaks[BREAK_CAUSE * MAX_BREAKS + at];
        }

        int flightOf(int i) {
            int begin = 0;
            for (int k = 0; k < i; k++) {
                begin += pieces[k];
            }
            int length = Math.max(1, pieces[i]);
            return (causeAt(begin - 1) + causeAt(begin + length - 1)) / length;
        }

        int turnAhead() {
            return totals[BREAKS] < 2 ? 0 : ahead * Math.abs(cellOf(1) - cellOf(0));
        }

        int longestPiece() {
            int longest = pieces[0];
            for (int i = 1; i < totals[PIECES]; i++) {
                longest = Math.max(longest, pieces[i]);
            }
            return longest;
        }

        int shortestPiece() {
            int shortest = pieces[0];
            for (int i = 1; i < totals[PIECES]; i++) {
                shortest = Math.min(shortest, pieces[i]);
            }
            return shortest;
        }

        boolean holdsTicks(Row row) {
            int held = 0;
            for (int i = 0; i < row.size && row.numbers[i] >= 0; i++) {
                if (i >= totals[BREAKS] || row.numbers[i] != tickOf(i)) {
                    return false;
                }
                held++;
            }
            return held == totals[BREAKS];
        }

        boolean hasPieces(Row row) {
            int like = 0;
            for (int i = 0; i < row.size && row.numbers[i] != 0; i++) {
                if (i >= totals[PIECES] || row.numbers[i] != pieces[i]) {
                    return false;
                }
                like++;
            }
            return like == totals[PIECES];
        }
    }

    /**
     * Makes RUNS in three parts, so that RUNS which differ in the later ones alone share the
     * earlier: a ROD is taken, bent up to its first BREAK, and WAVES are sent.
     */
    private static final class Engine {
        final Run out = new Run();
        int greatest;
        int greatestCell;
        private Rod rod = new Rod();
        private Law law = new Law();
        private int leastBend;
        private int firstCell;
        private int firstTick;
        private int off;
        private boolean isAlone;
        private int going;
        private final int[] strength = new int[MAX_CELLS];
        private final int[] load = new int[MAX_CELLS];
        private final int[] broken = new int[MAX_CELLS];
        private final int[] letGo = new int[MAX_CELLS];
        private final int[] goers = new int[MAX_WAVES];
        private final int[] place = new int[MAX_WAVES];
        private final int[] amount = new int[MAX_WAVES];

        int breakRod(Rod of, Doings doings, Law by, int seed) {
            take(of, by, seed);
            bendBy(doings, 1);
            return sendWaves(OWN_TURN, false);
        }

        void take(Rod of, Law by, int seed) {
            rod = of;
            law = by;
            out.ahead = by.facts[RUN] - by.facts[TWIST];
            of.drawStrengths(seed, strength);
            leastBend = bendThatBreaks(0);
            for (int i = 1; i < of.cells; i++) {
                leastBend = Math.min(leastBend, bendThatBreaks(i));
            }
        }

        private boolean isEnd(int i) {
            return i == 0 || i == rod.cells - 1;
        }

        private int loadOf(int i, int bend) {
            int all = bend * rod.shape[i] / Math.max(1, 10 * rod.stiff[i]);
            return isEnd(i) ? all + bend * law.facts[FINGERS] / 100 : all;
        }

        /** The least BEND by which the LOAD of a cell is above its STRENGTH: more BEND, more LOAD. */
        private int bendThatBreaks(int i) {
            int shape = Math.max(1, rod.shape[i]);
            int high = ((strength[i] + 1) * 10 * rod.stiff[i] + shape - 1) / shape;
            if (!isEnd(i) || law.facts[FINGERS] == 0) {
                return high;
            }
            int low = 1;
            for (int halves = 0; halves < 32 && low < high; halves++) {
                int mid = (low + high) / 2;
                if (loadOf(i, mid) > strength[i]) {
                    high = mid;
                } else {
                    low = mid + 1;
                }
            }
            return high;
        }

        void bendBy(Doings doings, int pace) {
            firstTick = doings.tickOfBend(leastBend, pace);
            firstCell = NONE;
            int over = firstTick + 1;
            if (firstTick == NONE) {
                over = Math.min(doings.allTicks() * pace, MAX_TICKS);
            }
            out.totals[TICKS] = over;
            out.totals[BEND] = doings.bendBehind(over, pace);
            out.totals[TURN] = doings.turnBehind(over, pace);
            if (firstTick != NONE) {
                findFirstCell();
            }
        }

        private void findFirstCell() {
            int most = 0;
            for (int i = 0; i < rod.cells; i++) {
                load[i] = loadOf(i, out.totals[BEND]);
                if (load[i] - strength[i] > most) {
                    most = load[i] - strength[i];
                    firstCell = i;
                }
            }
        }

        /**
         * By a TURN in place of the RUN's own, if it isn't OWN_TURN: how many PIECES. Alone, for
         * BEYOND: nothing breaks but the first.
         */
        int sendWaves(int turn, boolean alone) {
            isAlone = alone;
            greatest = NONE;
            greatestCell = NONE;
            off = law.offBy(turn == OWN_TURN ? out.totals[TURN] : turn);
            out.totals[BREAKS] = 0;
            out.totals[WAVES] = 0;
            out.totals[OFFS] = 0;
            going = 0;
            Arrays.fill(broken, 0);
            Arrays.fill(letGo, 0);
            if (firstCell != NONE) {
                breakCell(firstCell, firstTick, kindOfFirst(), load[firstCell]);
                // WAVES begin as others come to a cell: all come by steps of 'run' from the first BREAK on.
                int step = Math.max(1, law.facts[RUN]);
                int over = firstTick + 1;
                for (int tick = firstTick + step; tick < MAX_TICKS && going > 0; tick += step) {
                    moveAll(tick);
                    over = tick + 1;
                }
                out.totals[TICKS] = going > 0 ? MAX_TICKS : over;
            }
            countCells();
            return out.totals[PIECES];
        }

        int aboveStrength() {
            return greatestCell == NONE ? NOT_BEYOND : greatest - strength[greatestCell];
        }

        private int kindOfFirst() {
            if (isEnd(firstCell)) {
                return KIND_CRUSHED;
            }
            return strength[firstCell] < rod.strong[firstCell] ? KIND_FLAWED : KIND_FIRST;
        }

        private void breakCell(int cell, int tick, int kind, int cause) {
            int i = out.totals[BREAKS];
            if (i >= MAX_BREAKS) {
                return;
            }
            out.breaks[BREAK_CELL * MAX_BREAKS + i] = cell;
            out.breaks[BREAK_TICK * MAX_BREAKS + i] = tick;
            out.breaks[BREAK_KIND * MAX_BREAKS + i] = kind;
            out.breaks[BREAK_CAUSE * MAX_BREAKS + i] = cause;
            out.totals[BREAKS]++;
            broken[cell] = 1;
            int by = Math.min(MAX_AMOUNT, cause * law.facts[BOUNCE] / 100);
            beginWave(cell, LEFT, tick, by, 0);
            beginWave(cell, RIGHT, tick, by, 0);
        }

        private void beginWave(int from, int side, int tick, int by, int echo) {
            int w = out.totals[WAVES];
            if (w >= MAX_WAVES) {
                return;
            }
            out.waves[WAVE_CELL * MAX_WAVES + w] = from;
            out.waves[WAVE_SIDE * MAX_WAVES + w] = side;
            out.waves[WAVE_TICK * MAX_WAVES + w] = tick;
            out.waves[WAVE_AMOUNT * MAX_WAVES + w] = by;
            out.waves[WAVE_ECHO * MAX_WAVES + w] = echo;
            out.waves[WAVE_CAME * MAX_WAVES + w] = 0;
            out.totals[WAVES]++;
            place[w] = from;
            amount[w] = by;
            goers[going] = w;
            going++;
        }

        /** WAVES that begin meanwhile stand behind the others and come to no cell yet. */
        private void moveAll(int tick) {
            int there = going;
            int stay = 0;
            for (int i = 0; i < there; i++) {
                int w = goers[i];
                if (goesOn(w, tick)) {
                    goers[stay] = w;
                    stay++;
                }
            }
            for (int i = there; i < going; i++) {
                goers[stay] = goers[i];
                stay++;
            }
            going = stay;
        }

        /** A WAVE comes to its next cell. */
        private boolean goesOn(int w, int tick) {
            boolean isLeft = out.waves[WAVE_SIDE * MAX_WAVES + w] == LEFT;
            boolean isEcho = out.waves[WAVE_ECHO * MAX_WAVES + w] == 1;
            int at = isLeft ? place[w] - 1 : place[w] + 1;
            place[w] = at;
            if (at < 0 || at >= rod.cells || broken[at] == 1) {
                int by = isEcho ? 0 : amount[w] * law.facts[ECHO] / 100;
                if (by > 0) {
                    beginWave(at, isLeft ? RIGHT : LEFT, tick, by, 1);
                }
                return false;
            }
            amount[w] = law.hitOn(rod.stuff[at], amount[w]);
            if (amount[w] == 0) {
                return false;
            }
            out.waves[WAVE_CAME * MAX_WAVES + w]++;
            int all = amount[w] + (letGo[at] == 1 ? 0 : load[at]);
            if (!isAlone && all - off > strength[at]) {
                breakCell(at, tick, isEcho ? KIND_LATE : KIND_WAVED, all - off);
                return false;
            }
            letGo[at] = 1;
            if (all > strength[at]) {
                out.totals[OFFS]++;
            }
            if (!isEcho) {
                noteGreatest(at, all);
            }
            return true;
        }

        private void noteGreatest(int at, int all) {
            if (all > greatest || all == greatest && at < greatestCell) {
                greatest = all;
                greatestCell = at;
            }
        }

        private void countCells() {
            int let = 0;
            int made = 0;
            int length = 0;
            for (int i = 0; i < rod.cells; i++) {
                let += letGo[i];
                length++;
                if (broken[i] == 1 || i == rod.cells - 1) {
                    out.pieces[made] = length;
                    made++;
                    length = 0;
                }
            }
            out.totals[PIECES] = made;
            out.totals[LET_GO] = let;
        }
    }

    private static final class Row {
        boolean isThere;
        int size;
        final long[] numbers = new long[MAX_NUMBERS];
        private int sort;

        void begin(int asSort, int n) {
            isThere = true;
            sort = asSort;
            size = n;
            Arrays.fill(numbers, 0L);
        }

        long put(int i, long v) {
            long cut = v;
            if (sort == 0) {
                cut = (byte) v;
            } else if (sort == 1) {
                cut = (short) v;
            } else if (sort == 2) {
                cut = (int) v;
            }
            numbers[i] = cut;
            return cut;
        }
    }

    /** All that an IMAGE has. */
    private static final class State {
        boolean isMade;
        boolean isKept;
        final Rod[] rods = new Rod[RODS];
        final Doings[] doings = new Doings[DOINGS];
        final Law law = new Law();
        final Looks looks = new Looks();
        final Run run = new Run();

        State() {
            for (int k = 0; k < RODS; k++) {
                rods[k] = new Rod();
            }
            for (int k = 0; k < DOINGS; k++) {
                doings[k] = new Doings();
            }
        }

        void copyFrom(State from) {
            isKept = from.isKept;
            for (int k = 0; k < RODS; k++) {
                rods[k].copyFrom(from.rods[k]);
            }
            for (int k = 0; k < DOINGS; k++) {
                doings[k].copyFrom(from.doings[k]);
            }
            law.copyFrom(from.law);
            looks.copyFrom(from.looks);
            run.copyFrom(from.run);
        }

        int rodsThere() {
            int there = 0;
            for (int k = 0; k < RODS; k++) {
                if (rods[k].cells > 0) {
                    there++;
                }
            }
            return there;
        }
    }

    /** THE TAPE and what reads texts from it, TOKEN by TOKEN, up to the first FAULT. */
    private static final class Reader {
        int fed;
        int fault;
        int faultPlace = NONE;
        final Rod rod = new Rod();
        final Doings doings = new Doings();
        final Law law = new Law();
        final Looks looks = new Looks();
        private final byte[] tape = new byte[MAX_BYTES];
        private final char[] letters = WORDS.toCharArray();
        private int length;
        private int at;
        private int token;
        private int place;
        private int number;

        void put(int four) {
            for (int shift = 24; shift >= 0 && fed < MAX_BYTES; shift -= 8) {
                tape[fed] = (byte) (four >>> shift);
                fed++;
            }
        }

        void begin(int n) {
            fed = 0;
            length = Math.min(n, MAX_BYTES);
            at = 0;
            fault = 0;
            faultPlace = NONE;
            next();
        }

        /** The first FAULT stays: a TOKEN that is none can't stand anywhere, either. */
        private boolean fail(int kind) {
            if (fault == 0) {
                fault = kind;
                faultPlace = place;
            }
            return false;
        }

        private void next() {
            while (at < length && (tape[at] == ' ' || tape[at] == 10)) {
                at++;
            }
            place = at;
            if (at >= length) {
                token = T_END;
            } else if (isLetter(at)) {
                while (at < length && isLetter(at)) {
                    at++;
                }
                token = wordFrom(place, at - place);
            } else if (isDigit(at)) {
                takeNumber();
            } else {
                takeSign();
            }
            if (token == T_NOTHING) {
                fail(FAULT_NO_TOKEN);
            }
        }

        private boolean isLetter(int i) {
            return tape[i] >= 'a' && tape[i] <= 'z';
        }

        private boolean isDigit(int i) {
            return tape[i] >= '0' && tape[i] <= '9';
        }

        private int wordFrom(int from, int size) {
            int word = 0;
            int like = 0;
            for (int i = 0; i < letters.length; i++) {
                char c = letters[i];
                if (c == ' ') {
                    if (like == size) {
                        return word;
                    }
                    word++;
                    like = 0;
                } else if (like >= 0 && like < size && tape[from + like] == c) {
                    like++;
                } else {
                    like = NONE;
                }
            }
            return T_OTHER_WORD;
        }

        private void takeNumber() {
            number = 0;
            token = T_NUMBER;
            while (at < length && tape[at] >= '0' && tape[at] <= '9') {
                if (at - place < 3) {
                    number = number * 10 + (tape[at] - '0');
                }
                at++;
            }
            if (at - place > 3) {
                token = T_NOTHING;
            }
        }

        private void takeSign() {
            int sign = tape[at];
            at++;
            if (sign == ';') {
                token = T_SEMICOLON;
            } else if (sign == '(') {
                token = T_OPEN;
            } else if (sign == ')') {
                token = T_CLOSE;
            } else {
                token = T_NOTHING;
            }
        }

        private boolean expect(int wanted) {
            if (token != wanted) {
                return fail(FAULT_MISPLACED);
            }
            next();
            return true;
        }

        /** The number within its bounds, behind which the next TOKEN stands ready; else NONE. */
        private int numberWithin(int least, int most) {
            if (token != T_NUMBER) {
                fail(FAULT_MISPLACED);
                return NONE;
            }
            if (number < least || number > most) {
                fail(FAULT_BOUNDS);
                return NONE;
            }
            int n = number;
            next();
            return n;
        }

        int readRod() {
            if (!expect(W_CELLS)) {
                return 0;
            }
            int n = numberWithin(LEAST[W_CELLS], MOST[W_CELLS]);
            if (n == NONE || !expect(T_SEMICOLON)) {
                return 0;
            }
            rod.begin(n);
            for (int lines = 1; lines <= MAX_LINES; lines++) {
                if (token == T_END) {
                    return lines;
                }
                if (!readRodLine(lines)) {
                    return 0;
                }
            }
            return 0;
        }

        private boolean readRodLine(int lines) {
            int word = token;
            if (word < W_STIFF || word > W_FLAWS) {
                return fail(FAULT_MISPLACED);
            }
            if (lines == MAX_LINES) {
                return fail(FAULT_TOO_MANY);
            }
            next();
            int value = word == W_GLASS ? GLASS : DAMP;
            if (word != W_GLASS && word != W_DAMP) {
                value = numberWithin(LEAST[word], MOST[word]);
            }
            if (value == NONE) {
                return false;
            }
            if (word == W_FLAWS) {
                rod.flaws = value;
            } else if (!readSpans(word, value)) {
                return false;
            }
            return expect(T_SEMICOLON);
        }

        private boolean readSpans(int word, int value) {
            if (token != W_AT) {
                rod.tell(word, 0, rod.cells - 1, value);
                return true;
            }
            for (int spans = 0; spans < MAX_BYTES && token == W_AT; spans++) {
                next();
                int first = numberWithin(0, rod.cells - 1);
                int last = first;
                if (first != NONE && token == W_TO) {
                    next();
                    last = numberWithin(first, rod.cells - 1);
                }
                if (last == NONE) {
                    return false;
                }
                rod.tell(word, first, last, value);
            }
            return true;
        }

        int readDoings() {
            doings.told = 0;
            for (int steps = 0; steps <= MAX_STEPS; steps++) {
                if (token == T_END) {
                    return steps;
                }
                if (!readStep(steps)) {
                    return 0;
                }
            }
            return 0;
        }

        private boolean readStep(int steps) {
            int word = token;
            if (word < W_BEND || word > W_REST) {
                return fail(FAULT_MISPLACED);
            }
            if (steps == MAX_STEPS) {
                return fail(FAULT_TOO_MANY);
            }
            next();
            int by = word == W_REST ? 0 : numberWithin(LEAST[word], MOST[word]);
            if (by == NONE || !expect(W_FOR)) {
                return false;
            }
            int howLong = numberWithin(LEAST[W_FOR], MOST[W_FOR]);
            if (howLong == NONE || !expect(T_SEMICOLON)) {
                return false;
            }
            doings.tell(word, by, howLong);
            return true;
        }

        int readLaw() {
            law.begin();
            for (int lines = 0; lines <= MAX_LINES; lines++) {
                if (token == T_END) {
                    law.told = lines;
                    return lines;
                }
                if (!readLawLine(lines)) {
                    return 0;
                }
            }
            return 0;
        }

        private boolean readLawLine(int lines) {
            int word = token;
            if (word < W_BOUNCE || word > W_FINGERS) {
                return fail(FAULT_MISPLACED);
            }
            if (lines == MAX_LINES) {
                return fail(FAULT_TOO_MANY);
            }
            next();
            int value = numberWithin(LEAST[word], MOST[word]);
            if (value == NONE) {
                return false;
            }
            law.facts[word - W_BOUNCE] = value;
            return expect(T_SEMICOLON);
        }

        int readLooks() {
            looks.begin();
            for (int told = 0; told <= MAX_LOOKS; told++) {
                if (token == T_END) {
                    return told;
                }
                if (token == W_SEEK && told == MAX_LOOKS) {
                    fail(FAULT_TOO_MANY);
                    return 0;
                }
                if (!expect(W_SEEK) || !expect(W_IF)) {
                    return 0;
                }
                looks.begins[told + 1] = looks.begins[told];
                if (!readAnyOf(0) || !expect(T_SEMICOLON)) {
                    return 0;
                }
                looks.told++;
            }
            return 0;
        }

        private boolean readAnyOf(int open) {
            boolean isRead = readAllOf(open);
            for (int parts = 0; parts < MAX_BYTES && isRead && token == W_OR; parts++) {
                next();
                isRead = readAllOf(open);
                looks.tell(W_OR, 0);
            }
            return isRead;
        }

        private boolean readAllOf(int open) {
            boolean isRead = readFact(open);
            for (int parts = 0; parts < MAX_BYTES && isRead && token == W_AND; parts++) {
                next();
                isRead = readFact(open);
                looks.tell(W_AND, 0);
            }
            return isRead;
        }

        /** open: how many 'not' and '(' are open around it. */
        private boolean readFact(int open) {
            int word = token;
            if (word == W_NOT || word == T_OPEN) {
                if (open >= MAX_OPEN) {
                    return fail(FAULT_TOO_DEEP);
                }
                next();
                if (word == T_OPEN) {
                    return readAnyOf(open + 1) && expect(T_CLOSE);
                }
                boolean isRead = readFact(open + 1);
                looks.tell(W_NOT, 0);
                return isRead;
            }
            if (word < W_FLAWED || word > W_BEHIND) {
                return fail(FAULT_MISPLACED);
            }
            next();
            int n = word <= W_CRUSHED ? 0 : numberWithin(LEAST[word], MOST[word]);
            if (n == NONE) {
                return false;
            }
            looks.tell(word, n);
            return true;
        }
    }
}
