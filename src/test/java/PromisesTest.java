/** Each promise of the document by its number, with answers that were worked out by hand. */
public final class PromisesTest extends Due {
    public static void main(String[] args) {
        newObject();
        feed();
        text();
        numbersOfTexts();
        faults();
        fault();
        rodAndCell();
        strength();
        bent();
        goInThree();
        goTurnedOff();
        goByStuff();
        goCrushedAndFlawed();
        goFarthest();
        keptCodes();
        why();
        film();
        beyond();
        oddsAndEnds();
        pacedAndLine();
        turnedAndLeast();
        notchedAndNotch();
        longer();
        thinner();
        beside();
        never();
        readAndWas();
        found();
        middle();
        filmed();
        swapped();
        grid();
        flies();
        rows();
        keep();
        images();
        status();
        count();
        firstCodes();
        fullest();
        end();
    }

    /**
     * Breaks at cell 2 by 110 at TICK 10, then at cell 3 by 96 and 55 at TICK 12: 151 above 150. SHAPES are
     * 55, 88, 100, 88, 55.
     */
    private static RodInThree inThree() {
        return with("cells 5;strong 999;strong 100 at 2;strong 150 at 3;", "bend 10 for 20;", "bounce 50;die 0;");
    }

    /**
     * By seeds 1 to 5 cell 1 breaks at TICK 79, 80, 82, 82, 83 (draws 21, 20, 18, 18, 17), and cell 0 (draws 8, 16,
     * 25, 32, 40) does by seeds 4 and 5 alone: 140, 141, 145, 145, 147 come to 162, 154, 145, 138, 130.
     */
    private static RodInThree bySeeds() {
        return with("cells 3;strong 170 at 0;strong 999 at 2;flaws 50;", "bend 1 for 200;", "die 0;");
    }

    // ---- promises

    private static void newObject() {
        RodInThree x = new RodInThree();
        for (int k = 0; k < 4; k++) {
            due(1, "rod " + k, x.rod(k, 0), -2);
            due(1, "STEPS of DOINGS " + k, x.count(20 + k), 0);
            due(1, "TICKS of DOINGS " + k, x.count(30 + k), 0);
            due(1, "write to ROW " + k, x.write(k, 0, 1), -6);
        }
        due(1, "count(0)", x.count(0), 0);
        due(1, "count(1)", x.count(1), 0);
        due(1, "count(10)", x.count(10), 0);
        due(1, "count(11)", x.count(11), 0);
        due(1, "restore(0)", x.restore(0), -5);
        due(1, "restore(1)", x.restore(1), -5);
        due(1, "fault(0)", x.fault(0), 0);
        due(1, "fault(1)", x.fault(1), NONE);
        due(1, "run(0)", x.run(0), -5);
        due(1, "NONE", RodInThree.NONE, -1);
    }

    private static void feed() {
        RodInThree x = new RodInThree();
        for (int i = 1; i <= 20; i++) due(2, "feed " + i, x.feed(0x20202020, -1, 0, 1, 2), 20 * i);
        due(2, "feed beyond 400", x.feed(0, 0, 0, 0, 0), -5);
        due(2, "bytes then", x.count(0), 400);
        due(2, "refused", x.status(5), 1);
        due(2, "a text of -1", x.text(2, 0, 5), -11);
        due(2, "its place: the highest byte goes first", x.fault(1), 4);
        x.feed(0x72756e20, 0x333b0a20, 0x74776973, 0x7420343b, 0x20202020);
        due(2, "run 3; twist 4;", x.text(2, 0, 20), 2);
        due(2, "run", x.count(4), 3);
        due(2, "twist", x.count(5), 4);
    }

    private static void text() {
        RodInThree x = new RodInThree();
        due(3, "a ROD", tell(x, 0, 3, "cells 9;"), 1);
        due(3, "THE TAPE is empty then", x.count(0), 0);
        due(3, "ROD 3", x.rod(3, 0), 9);
        due(3, "DOINGS", tell(x, 1, 3, "bend 1 for 2;rest for 3;"), 2);
        due(3, "STEPS", x.count(23), 2);
        due(3, "THE LAW", tell(x, 2, 0, "die 1;die 2;run 3;"), 3);
        due(3, "die", x.count(3), 2);
        due(3, "LOOKS", tell(x, 3, 0, "seek if flawed;seek if(crushed or late 1)and not offs 2;"), 2);
        due(3, "LOOKS", x.count(11), 2);
        due(3, "tokens side by side, blanks of both kinds", tell(x, 0, 0, "\n cells4 ;stiff7at0to1at3\n;"), 2);
        due(3, "stiff of 1", x.cell(0, 1, 0), 7);
        due(3, "stiff of 2", x.cell(0, 2, 0), 10);
        due(3, "stiff of 3", x.cell(0, 3, 0), 7);
        feedText(x, "cells 5;cells 5;");
        due(3, "what -1", x.text(-1, 0, 8), -2);
        due(3, "what 4", x.text(4, 0, 8), -2);
        due(3, "k -1", x.text(0, -1, 8), -2);
        due(3, "k 4", x.text(0, 4, 8), -2);
        due(3, "k 4 of DOINGS", x.text(1, 4, 8), -2);
        due(3, "k -1 of DOINGS", x.text(1, -1, 8), -2);
        due(3, "k 1 of THE LAW", x.text(2, 1, 8), -2);
        due(3, "k 1 of LOOKS", x.text(3, 1, 8), -2);
        due(3, "n -1", x.text(0, 1, -1), -3);
        due(3, "n 21", x.text(0, 1, 21), -3);
        due(3, "THE TAPE stays", x.count(0), 20);
        due(3, "the first bytes alone", x.text(0, 1, 8), 1);
        due(3, "the others are gone", x.count(0), 0);
        due(3, "no ROD without cells", x.text(0, 1, 0), -12);
        due(3, "the ROD that was stays", x.rod(1, 0), 5);
        due(3, "with a FAULT", tell(x, 1, 3, "bend 5 for 1;bend 100 for 1;"), -13);
        due(3, "DOINGS stay", x.bent(3, 1, false), 2);
        due(3, "with a FAULT", tell(x, 2, 0, "die 9;bounce;"), -12);
        due(3, "THE LAW stays", x.count(3), 2);
        due(3, "with a FAULT", tell(x, 3, 0, "seek if flawed;seek if;"), -12);
        due(3, "LOOKS stay", x.count(11), 2);
        due(3, "no STEPS", x.text(1, 3, 0), 0);
        due(3, "no STEPS then", x.count(23), 0);
        due(3, "no LINES", x.text(2, 0, 0), 0);
        due(3, "die is as without", x.count(3), 5);
        due(3, "no LOOKS", x.text(3, 0, 0), 0);
        due(3, "no LOOKS then", x.count(11), 0);
        due(3, "400 bytes", tell(x, 0, 2, "cells 4;" + times(384, " ") + "\nflaws7;"), 2);
        due(3, "flaws at the end", x.rod(2, 1), 7);
    }

    /** A text with a number at its least and most is read, with one beyond it has FAULT 3 (or 1 from 1000 on). */
    private static void bounds(int what, String text, int least, int most) {
        RodInThree x = new RodInThree();
        due(3, text + " " + least, Math.min(0, tell(x, what, 0, text.replace("N", "" + least))), 0);
        due(3, text + " " + most, Math.min(0, tell(x, what, 0, text.replace("N", "" + most))), 0);
        due(3, text + " above", tell(x, what, 0, text.replace("N", "" + (most + 1))), most == 999 ? -11 : -13);
        due(4, text + " above, its place", x.fault(1), text.indexOf('N'));
        if (least > 0) {
            due(3, text + " below", tell(x, what, 0, text.replace("N", "" + (least - 1))), -13);
            due(4, text + " below, its place", x.fault(1), text.indexOf('N'));
        }
    }

    private static void numbersOfTexts() {
        bounds(0, "cells N;", 3, 60);
        bounds(0, "cells 4;stiff N;", 1, 99);
        bounds(0, "cells 4;strong N;", 1, 999);
        bounds(0, "cells 4;notch N;", 0, 99);
        bounds(0, "cells 4;flaws N;", 0, 99);
        bounds(0, "cells 4;glass at N;", 0, 3);
        bounds(0, "cells 4;damp at 1 to N;", 1, 3);
        bounds(0, "cells 60;notch 1 at 0 at N;", 0, 59);
        for (String w : new String[] {"bend", "back", "turn"}) bounds(1, w + " N for 1;", 0, 99);
        bounds(1, "bend 1 for N;", 1, 200);
        bounds(1, "rest for N;", 1, 200);
        bounds(2, "bounce N;", 0, 200);
        bounds(2, "die N;", 0, 99);
        bounds(2, "run N;", 1, 9);
        bounds(2, "twist N;", 1, 9);
        for (String w : new String[] {"takes", "echo", "ring", "fingers"}) bounds(2, w + " N;", 0, 100);
        bounds(3, "seek if pieces N;", 1, 61);
        for (String w : new String[] {"waved", "late", "offs"}) bounds(3, "seek if " + w + " N;", 0, 99);
        bounds(3, "seek if first N;", 0, 59);
        bounds(3, "seek if longest N;", 1, 60);
        bounds(3, "seek if shortest N;", 1, 60);
        bounds(3, "seek if behind N;", 0, 999);
    }

    private static void fault(int what, String text, int kind, int place) {
        RodInThree x = new RodInThree();
        due(3, '"' + text + '"', tell(x, what, 0, text), -10 - kind);
        due(4, '"' + text + "\": FAULT", x.fault(0), kind);
        due(4, '"' + text + "\": place", x.fault(1), place);
        due(42, '"' + text + "\": refused", x.status(1), 1);
    }

    private static void faults() {
        fault(0, "", 2, 0);
        fault(0, "   ", 2, 3);
        fault(0, "Cells 4;", 1, 0);
        fault(0, "ceLls 4;", 2, 0);
        fault(0, "cells 4,", 1, 7);
        fault(0, "cells 4\t;", 1, 7);
        fault(0, "cells 4" + (char) 200, 1, 7);
        fault(0, "cells 4", 2, 7);
        fault(0, "cells 4 \n ", 2, 10);
        fault(0, "cells ;", 2, 6);
        fault(0, "cells 0004;", 1, 6);
        fault(0, "cells 4 at 0;", 2, 8);
        fault(0, "cells 4;cells 4;", 2, 8);
        fault(0, "stiff 4;", 2, 0);
        fault(0, "cells 4;;", 2, 8);
        fault(0, "cells 4;cell 4;", 2, 8);
        fault(0, "cells 4;stiffs 4;", 2, 8);
        fault(0, "cells 4;glassz;", 2, 8);
        fault(0, "cells 4;a;", 2, 8);
        fault(0, "cells 4;`;", 1, 8);
        fault(0, "cells 4;{;", 1, 8);
        fault(0, "cells 4;glass at 0/;", 1, 18);
        fault(0, "cells 4;glass at 0:;", 1, 18);
        fault(0, "cells 4;flaws 1 at 0;", 2, 16);
        fault(0, "cells 4;glass 1;", 2, 14);
        fault(0, "cells 4;glass at;", 2, 16);
        fault(0, "cells 4;glass at 4 to 9;", 3, 17);
        fault(0, "cells 4;glass at 2 to 1;", 3, 22);
        fault(0, "cells 4;glass at 0 to 1 to 2;", 2, 24);
        fault(0, "cells 4;glass to 1;", 2, 14);
        fault(0, "cells 4;glass at 0 1;", 2, 19);
        fault(0, "cells 4;bend 1 for 1;", 2, 8);
        fault(0, "cells 4;" + times(24, "damp;"), 4, 8 + 23 * 5);
        fault(0, "cells 4;" + times(23, "damp;") + "cells 4;", 2, 8 + 23 * 5);
        fault(0, "cells 4;" + times(23, "damp;") + "?", 1, 8 + 23 * 5);
        fault(0, "cells 4;" + times(23, "damp;") + ";", 2, 8 + 23 * 5);
        due(3, "24 LINES of a ROD", tell(new RodInThree(), 0, 0, "cells 4;" + times(23, "damp;")), 24);
        fault(1, "bend 1 for;", 2, 10);
        fault(1, "bend for 1;", 2, 5);
        fault(1, "rest 1 for 1;", 2, 5);
        fault(1, "bend 100 for 0;", 3, 5);
        fault(1, "bend 1 for 1 bend", 2, 13);
        fault(1, times(13, "rest for 1;"), 4, 12 * 11);
        fault(1, times(12, "rest for 1;") + "run", 2, 12 * 11);
        due(3, "12 STEPS", tell(new RodInThree(), 1, 0, times(12, "rest for 1;")), 12);
        fault(2, "run 2 run 3;", 2, 6);
        fault(2, "bounce 1000;", 1, 7);
        fault(2, times(25, "run 1;"), 4, 24 * 6);
        fault(2, times(24, "run 1;") + "bend", 2, 24 * 6);
        fault(2, times(24, "run 1;") + "1", 2, 24 * 6);
        due(3, "24 LINES of THE LAW", tell(new RodInThree(), 2, 0, times(24, "run 1;")), 24);
        fault(3, "if flawed;", 2, 0);
        fault(3, "seek flawed;", 2, 5);
        fault(3, "seek if;", 2, 7);
        fault(3, "seek if flawed 1;", 2, 15);
        fault(3, "seek if late;", 2, 12);
        fault(3, "seek if flawed or;", 2, 17);
        fault(3, "seek if flawed and or late 1;", 2, 19);
        fault(3, "seek if flawed not crushed;", 2, 15);
        fault(3, "seek if (flawed;", 2, 15);
        fault(3, "seek if flawed);", 2, 14);
        fault(3, "seek if ();", 2, 9);
        fault(3, "seek if not;", 2, 11);
        fault(3, times(9, "seek if late 1;"), 4, 8 * 15);
        fault(3, times(8, "seek if late 1;") + "if", 2, 8 * 15);
        due(3, "8 LOOKS", tell(new RodInThree(), 3, 0, times(8, "seek if late 1;")), 8);
        fault(3, "seek if " + times(9, "(") + "flawed" + times(9, ")") + ";", 5, 16);
        fault(3, "seek if " + times(3, "not(") + "not flawed" + times(3, ")") + " or " + times(9, "not "), 5, 8 + 12 + 10 + 3 + 4 + 32);
        fault(3, "seek if " + times(4, "not(") + "not flawed", 5, 8 + 16);
        fault(3, "seek if " + times(8, "(") + "late 1 and not", 5, 8 + 8 + 11);
        due(3, "8 are open", tell(new RodInThree(), 3, 0, "seek if " + times(8, "(") + "flawed" + times(8, ")") + " and " + times(8, "not ") + "late 1;"), 1);
        due(3, "side by side", tell(new RodInThree(), 3, 0, "seek if " + times(13, "(late 1) and not crushed or ") + "offs 1;"), 1);
    }

    private static void fault() {
        RodInThree x = new RodInThree();
        tell(x, 2, 0, "run 2;die;");
        due(4, "fault(0)", x.fault(0), 2);
        due(4, "fault(1)", x.fault(1), 9);
        x.text(9, 0, 0);
        x.text(2, 0, 1);
        due(4, "what wasn't read doesn't count", x.fault(0), 2);
        due(4, "fault(2)", x.fault(2), NONE);
        due(4, "fault(-1)", x.fault(-1), NONE);
        tell(x, 2, 0, "run 2;");
        due(4, "without one", x.fault(0), 0);
        due(4, "its place", x.fault(1), NONE);
    }

    private static void rodAndCell() {
        RodInThree x = new RodInThree();
        tell(x, 0, 1, "cells 5;flaws 4;flaws 9;stiff 20;stiff 30 at 1 at 3 to 4;strong 7 at 0;notch 8 at 4;glass;damp at 2 to 3;");
        due(5, "cells", x.rod(1, 0), 5);
        due(5, "flaws", x.rod(1, 1), 9);
        due(5, "what 2", x.rod(1, 2), -2);
        due(5, "what -1", x.rod(1, -1), -2);
        due(5, "rod 0", x.rod(0, 0), -2);
        due(5, "rod -1", x.rod(-1, 0), -2);
        due(5, "rod 4", x.rod(4, 0), -2);
        int[][] cells = {{20, 7, 0, 1, 55}, {30, 100, 0, 1, 88}, {20, 100, 0, 2, 100}, {30, 100, 0, 2, 88}, {30, 100, 8, 1, 55}};
        for (int i = 0; i < 5; i++) {
            for (int what = 0; what < 5; what++) due(6, "cell(1, " + i + ", " + what + ")", x.cell(1, i, what), cells[i][what]);
        }
        due(6, "cell 5", x.cell(1, 5, 0), -2);
        due(6, "cell -1", x.cell(1, -1, 0), -2);
        due(6, "what 5", x.cell(1, 0, 5), -2);
        due(6, "what -1", x.cell(1, 0, -1), -2);
        due(6, "rod 2", x.cell(2, 0, 0), -2);
        tell(x, 0, 1, "cells 60;");
        due(6, "a new text counts alone", x.cell(1, 1, 0), 10);
        due(5, "flaws without", x.rod(1, 1), 0);
        due(6, "SHAPE of the first of 60", x.cell(1, 0, 4), 6);
        due(6, "SHAPE of the last of 60", x.cell(1, 59, 4), 6);
        due(6, "SHAPE of the 30th of 60", x.cell(1, 29, 4), 99);
        tell(x, 0, 1, "cells 3;");
        due(6, "a cell that was", x.cell(1, 3, 0), -2);
        due(6, "SHAPE of the first of 3", x.cell(1, 0, 4), 75);
    }

    private static void strength() {
        RodInThree x = with("cells 5;flaws 99;strong 500;strong 30 at 3;notch 33 at 1;", "", "");
        int[] one = {462, 335 - 26, 487, 1, 481};
        int[] below = {496, 335 - 29, 493, 1, 499};
        for (int i = 0; i < 5; i++) {
            due(7, "by seed 1, cell " + i, x.strength(0, i, 1), one[i]);
            due(7, "by seed -7, cell " + i, x.strength(0, i, -7), below[i]);
        }
        tell(x, 0, 1, "cells 3;strong 999;notch 99;notch 50 at 1;notch 99 at 2;strong 1 at 2;");
        due(7, "without flaws", x.strength(1, 0, 5), 9);
        due(7, "without flaws, cut", x.strength(1, 1, 77), 499);
        due(7, "1 at least", x.strength(1, 2, 5), 1);
        tell(x, 0, 2, "cells 3;flaws 1;");
        int[] little = {100, 100, 99};
        for (int i = 0; i < 3; i++) due(7, "by flaws 1, cell " + i, x.strength(2, i, 1), little[i]);
        due(7, "cell 3", x.strength(1, 3, 5), -2);
        due(7, "cell -1", x.strength(1, -1, 5), -2);
        due(7, "rod 3", x.strength(3, 0, 5), -2);
    }

    private static void bent() {
        RodInThree x = new RodInThree();
        tell(x, 1, 2, "bend 5 for 2;back 8 for 2;turn 3 for 2;rest for 1;bend 1 for 1;");
        int[] bend = {5, 10, 2, 0, 0, 0, 0, 1, 1};
        int[] turn = {0, 0, 0, 0, 3, 6, 6, 6, 6};
        for (int t = 0; t < bend.length; t++) {
            due(8, "BEND at " + t, x.bent(2, t, false), bend[t]);
            due(8, "TURN at " + t, x.bent(2, t, true), turn[t]);
        }
        due(8, "at 3999", x.bent(2, 3999, true), 6);
        due(8, "at 4000", x.bent(2, 4000, true), -3);
        due(8, "at -1", x.bent(2, -1, true), -3);
        due(8, "empty DOINGS", x.bent(3, 7, false), 0);
        due(8, "DOINGS 4", x.bent(4, 0, false), -2);
        due(8, "DOINGS -1", x.bent(-1, 4000, false), -2);
        tell(x, 1, 0, times(12, "bend 99 for 200;"));
        due(8, "most that can be", x.bent(0, 2399, false), 237600);
    }

    private static void goInThree() {
        RodInThree x = inThree();
        due(9, "go", x.go(0, 0, 0), 3);
        int[][] breaks = {{2, 10, 0, 110}, {3, 12, 1, 151}};
        for (int i = 0; i < 2; i++) {
            for (int what = 0; what < 4; what++) due(10, "broke(" + i + ", " + what + ")", x.broke(i, what), breaks[i][what]);
        }
        due(10, "broke(2, 0)", x.broke(2, 0), -2);
        due(10, "broke(0, 4)", x.broke(0, 4), -2);
        due(10, "broke(0, -1)", x.broke(0, -1), -2);
        due(10, "broke(-1, 0)", x.broke(-1, 0), -2);
        int[] pieces = {3, 1, 1, -2};
        for (int i = 0; i < 4; i++) due(11, "piece " + i, x.piece(i), pieces[i]);
        due(11, "piece -1", x.piece(-1), -2);
        int[][] waves = {{2, 0, 10, 55, 0, 2}, {2, 1, 10, 55, 0, 1}, {3, 0, 12, 75, 0, 0}, {3, 1, 12, 75, 0, 1}};
        for (int i = 0; i < 4; i++) {
            for (int what = 0; what < 6; what++) due(12, "wave(" + i + ", " + what + ")", x.wave(i, what), waves[i][what]);
        }
        due(12, "wave(4, 0)", x.wave(4, 0), -2);
        due(12, "wave(-1, 0)", x.wave(-1, 0), -2);
        due(12, "wave(0, 6)", x.wave(0, 6), -2);
        due(12, "wave(0, -1)", x.wave(0, -1), -2);
        int[] run = {2, 3, 4, 0, 17, 110, 0, 3};
        for (int what = 0; what < 8; what++) due(13, "run(" + what + ")", x.run(what), run[what]);
        due(13, "run(8)", x.run(8), -2);
        due(13, "run(-1)", x.run(-1), -2);
        due(9, "rod 1", x.go(1, 0, 0), -2);
        due(9, "rod -1", x.go(-1, 0, 0), -2);
        due(9, "doings 4", x.go(0, 4, 0), -2);
        due(9, "doings -1", x.go(0, -1, 0), -2);
        due(9, "what is refused isn't KEPT", x.run(1), 3);
        due(9, "nothing is done", x.go(0, 3, 0), 1);
        int[] none = {0, 1, 0, 0, 0, 0, 0, 0};
        for (int what = 0; what < 8; what++) due(13, "run(" + what + ") of no TICK", x.run(what), none[what]);
        due(11, "a whole one", x.piece(0), 5);
        due(10, "of no BREAK", x.broke(0, 0), -2);
        due(12, "of no WAVE", x.wave(0, 0), -2);
        tell(x, 1, 3, "bend 10 for 10;turn 4 for 5;back 30 for 2;");
        due(9, "bent too little", x.go(0, 3, 0), 1);
        int[] whole = {0, 1, 0, 0, 17, 40, 20, 0};
        for (int what = 0; what < 8; what++) due(13, "run(" + what + ") of a whole one", x.run(what), whole[what]);
        tell(x, 2, 0, "bounce 0;run 5;");
        due(9, "waves of 0", x.go(0, 0, 0), 2);
        due(12, "they begin", x.run(2), 2);
        due(12, "with 0", x.wave(1, 3), 0);
        due(12, "and come to none", x.wave(1, 5), 0);
        due(13, "and end at their first cell", x.run(4), 16);
        due(13, "that isn't LET GO", x.run(7), 0);
    }

    private static void goTurnedOff() {
        RodInThree x = inThree();
        tell(x, 1, 1, "turn 2 for 1;bend 10 for 20;");
        due(9, "OFF 1 of 151", x.go(0, 1, 0), 2);
        int[] run = {1, 2, 2, 1, 18, 110, 2, 4};
        for (int what = 0; what < 8; what++) due(13, "run(" + what + ") turned off", x.run(what), run[what]);
        tell(x, 1, 1, "turn 1 for 1;bend 10 for 20;");
        due(9, "OFF 0", x.go(0, 1, 0), 3);
        due(10, "by all", x.broke(1, 3), 151);
        tell(x, 0, 0, "cells 5;strong 999;strong 100 at 2;strong 140 at 3;");
        tell(x, 1, 1, "turn 4 for 1;bend 10 for 20;");
        due(9, "OFF 2 isn't enough", x.go(0, 1, 0), 3);
        due(10, "by what is left", x.broke(1, 3), 149);
        due(12, "so the WAVE", x.wave(2, 3), 74);
        tell(x, 1, 1, "turn 99 for 1;bend 10 for 20;");
        tell(x, 2, 0, "bounce 50;die 0;run 3;twist 3;");
        due(9, "the turn is as quick", x.go(0, 1, 0), 2);
        tell(x, 2, 0, "bounce 50;die 0;run 3;twist 4;");
        due(9, "the turn is slower", x.go(0, 1, 0), 3);
        due(13, "none TURNED OFF", x.run(3), 0);
        due(10, "by WAVES that are slower", x.broke(1, 1), 14);
        tell(x, 2, 0, "bounce 50;die 0;takes 0;");
        due(9, "it takes nothing", x.go(0, 1, 0), 3);
    }

    private static void goByStuff() {
        RodInThree x = with("cells 7;strong 999;strong 100 at 3;damp at 1 at 5;glass at 0 at 4 at 6;", "bend 1 for 200;",
            "bounce 100;die 10;ring 50;echo 50;");
        due(9, "go", x.go(0, 0, 0), 2);
        int[][] waves = {{3, 0, 100, 101, 0, 3}, {3, 1, 100, 101, 0, 3}, {-1, 1, 108, 20, 1, 3}, {7, 0, 108, 22, 1, 3}};
        for (int i = 0; i < 4; i++) {
            for (int what = 0; what < 6; what++) due(12, "by STUFF wave(" + i + ", " + what + ")", x.wave(i, what), waves[i][what]);
        }
        int[] run = {1, 2, 4, 0, 117, 101, 0, 6};
        for (int what = 0; what < 8; what++) due(13, "by STUFF run(" + what + ")", x.run(what), run[what]);
        tell(x, 2, 0, "bounce 200;die 0;ring 100;echo 100;");
        x.go(0, 0, 0);
        due(12, "all of it", x.wave(2, 3), 202);
        tell(x, 2, 0, "bounce 100;die 10;ring 0;echo 100;");
        x.go(0, 0, 0);
        due(12, "damp ends it", x.wave(0, 5), 1);
        due(12, "no ECHO of that", x.run(2), 2);
        due(13, "as it comes to damp", x.run(4), 105);
        // Cell 1 breaks first; the WAVE back from cell 0 finds it broken, with all of its AMOUNT.
        tell(x, 2, 0, "die 99;echo 100;bounce 100;");
        tell(x, 0, 1, "cells 3;strong 68 at 0;strong 100 at 1;strong 999 at 2;stiff 11 at 0;");
        due(9, "an ECHO from a broken cell", x.go(1, 0, 0), 3);
        due(10, "cell 0 by 68 and 1", x.broke(1, 3), 69);
        int[][] echoes = {{1, 0, 100, 101, 0, 1}, {1, 1, 100, 101, 0, 1}, {0, 0, 102, 69, 0, 0}, {0, 1, 102, 69, 0, 0}, {-1, 1, 104, 69, 1, 0},
            {1, 0, 104, 69, 1, 0}, {3, 0, 104, 1, 1, 0}};
        for (int what = 0; what < 6; what++) {
            due(12, "left of the second, wave(2, " + what + ")", x.wave(2, what), echoes[2][what]);
            due(12, "right of the second, wave(3, " + what + ")", x.wave(3, what), echoes[3][what]);
            // The WAVE to the right from cell 1 began ahead of both, so its ECHO does, too.
            due(12, "ECHO of the first, wave(4, " + what + ")", x.wave(4, what), echoes[6][what]);
            due(12, "ECHO from beyond, wave(5, " + what + ")", x.wave(5, what), echoes[4][what]);
            due(12, "ECHO from a broken one, wave(6, " + what + ")", x.wave(6, what), echoes[5][what]);
        }
        due(12, "an ECHO has none", x.run(2), 7);
        due(13, "ECHOES end, too", x.run(4), 107);
    }

    private static void goCrushedAndFlawed() {
        RodInThree x = with("cells 5;", "bend 1 for 200;", "bounce 0;fingers 100;");
        due(9, "crushed", x.go(0, 0, 0), 2);
        due(10, "of like ones the least", x.broke(0, 0), 0);
        due(10, "TICK", x.broke(0, 1), 65);
        due(10, "KIND", x.broke(0, 2), 3);
        due(10, "LOAD", x.broke(0, 3), 102);
        due(11, "its PIECE", x.piece(0), 1);
        tell(x, 0, 0, "cells 5;strong 999 at 0;");
        due(9, "crushed at the last cell", x.go(0, 0, 0), 1);
        due(10, "cell 4", x.broke(0, 0), 4);
        due(10, "KIND", x.broke(0, 2), 3);
        due(11, "nothing is behind it", x.piece(0), 5);
        due(17, "one PIECE", x.odds(0, 0, 1, 3), 3);
        tell(x, 2, 0, "bounce 0;");
        tell(x, 0, 0, "cells 5;notch 20 at 2;");
        x.go(0, 0, 0);
        due(10, "flawed by a notch", x.broke(0, 2), 4);
        due(10, "as it is above 80", x.broke(0, 3), 81);
        tell(x, 0, 0, "cells 5;strong 80 at 2;");
        x.go(0, 0, 0);
        due(10, "not flawed: told so", x.broke(0, 2), 0);
        tell(x, 0, 0, "cells 5;notch 99 at 0;");
        x.go(0, 0, 0);
        due(10, "crushed, though flawed, too", x.broke(0, 2), 3);
        tell(x, 0, 0, "cells 5;strong 50 at 1;strong 60 at 3;");
        tell(x, 1, 1, "bend 99 for 1;");
        x.go(0, 1, 0);
        due(10, "by most: 37 above 50", x.broke(0, 0), 1);
        tell(x, 0, 0, "cells 5;strong 70 at 1;strong 50 at 3;strong 60 at 2;");
        x.go(0, 1, 0);
        due(10, "by most: 39 above 60", x.broke(0, 0), 2);
        tell(x, 0, 0, "cells 5;stiff 3 at 4;strong 70;");
        x.go(0, 1, 0);
        due(10, "by stiff: 99 times 55 by 30", x.broke(0, 3), 181);
        tell(x, 0, 0, "cells 60;strong 99;");
        x.go(0, 0, 0);
        due(10, "101 times 99 by 100 isn't above 99", x.broke(0, 1), 101);
        due(10, "102 times 99 by 100", x.broke(0, 3), 100);
        tell(x, 0, 0, "cells 3;strong 999;strong 150 at 0;");
        tell(x, 1, 1, "bend 1 for 200;bend 1 for 200;");
        tell(x, 2, 0, "bounce 0;fingers 1;");
        x.go(0, 1, 0);
        due(10, "150 and 2", x.broke(0, 3), 152);
        due(10, "by BEND 200", x.broke(0, 1), 199);
        tell(x, 0, 0, "cells 3;strong 999;strong 7 at 2;stiff 1 at 2;");
        tell(x, 2, 0, "bounce 0;fingers 100;");
        x.go(0, 1, 0);
        due(10, "7 and 1", x.broke(0, 3), 8);
        due(10, "by BEND 1", x.broke(0, 1), 0);
        // BEND by steps: 90, back to 0, and on in the third.
        tell(x, 0, 0, "cells 3;strong 999 at 0 at 2;");
        tell(x, 2, 0, "bounce 0;");
        tell(x, 1, 1, "bend 9 for 10;back 60 for 2;rest for 3;bend 10 for 4;turn 1 for 3;bend 20 for 4;");
        x.go(0, 1, 0);
        due(10, "at the fourth of 20", x.broke(0, 1), 25);
        due(10, "by 120", x.broke(0, 3), 120);
        due(13, "TURN", x.run(6), 3);
    }

    private static void goFarthest() {
        RodInThree x = with("cells 60;glass;stiff 99;stiff 1 at 0;strong 999;strong 58 at 0;strong 100 at 59;strong 200 at 1;strong 400 at 58;",
            "rest for 199;" + times(10, "rest for 200;") + "bend 1 for 200;", "bounce 200;run 9;");
        due(9, "4000 TICKS", x.go(0, 0, 0), 4);
        int[][] breaks = {{0, 2297, 3, 59}, {59, 2828, 1, 118}, {1, 3350, 1, 236}, {58, 3863, 1, 472}};
        for (int i = 0; i < 4; i++) {
            for (int what = 0; what < 4; what++) due(10, "far broke(" + i + ", " + what + ")", x.broke(i, what), breaks[i][what]);
        }
        int[] came = {0, 59, 58, 0, 0, 57, 15, 0};
        for (int i = 0; i < 8; i++) due(12, "far wave " + i, x.wave(i, 5), came[i]);
        int[] run = {4, 4, 8, 0, 4000, 99, 0, 58};
        for (int what = 0; what < 8; what++) due(13, "far run(" + what + ")", x.run(what), run[what]);
        int[] pieces = {1, 1, 57, 1, -2};
        for (int i = 0; i < 5; i++) due(11, "far piece " + i, x.piece(i), pieces[i]);
        due(14, "far why", x.why(), 8 * 59);

        x = with("cells 60;strong 1;", "bend 99 for 1;", "bounce 200;die 0;echo 100;");
        due(9, "60 BREAKS", x.go(0, 0, 0), 60);
        due(13, "60 BREAKS", x.run(0), 60);
        due(13, "WAVES with ECHOES", x.run(2), 181);
        due(10, "the first of those with SHAPE 99", x.broke(0, 0), 27);
        due(10, "the last", x.broke(59, 0), 59);
        due(10, "its TICK", x.broke(59, 1), 64);
        due(10, "its cause, with an AMOUNT of 1000000", x.broke(59, 3), 1000005);
        due(12, "that again", x.wave(180, 3), 1000000);
        due(11, "the last PIECE", x.piece(59), 1);
        due(11, "none behind", x.piece(60), -2);
        x.row(0, 1, 60);
        due(39, "60 numbers", x.keep(0, 1), 60);
        due(15, "60 TICKS", x.film(0), 1);
    }

    private static void keptCodes() {
        RodInThree x = inThree();
        due(10, "broke without", x.broke(0, 0), -5);
        due(10, "broke(99, 3) without", x.broke(99, 3), -5);
        due(10, "broke(0, 4) without", x.broke(0, 4), -2);
        due(10, "broke(-1, 0) without", x.broke(-1, 0), -2);
        due(11, "piece without", x.piece(99), -5);
        due(11, "piece -1 without", x.piece(-1), -2);
        due(12, "wave without", x.wave(999, 5), -5);
        due(12, "wave(0, 6) without", x.wave(0, 6), -2);
        due(12, "wave(-1, 0) without", x.wave(-1, 0), -2);
        due(13, "run without", x.run(7), -5);
        due(13, "run(8) without", x.run(8), -2);
        due(14, "why without", x.why(), -5);
        due(15, "film without", x.film(0), -5);
        due(15, "film(4) without", x.film(4), -2);
        due(15, "film(-1) without", x.film(-1), -2);
        due(36, "flies without", x.flies(99), -5);
        due(36, "flies(-1) without", x.flies(-1), -2);
        due(39, "keep without", x.keep(0, 0), -5);
        due(39, "keep(4, 0) without", x.keep(4, 0), -2);
        due(39, "keep(0, 2) without", x.keep(0, 2), -2);
        due(42, "-2", x.status(2), 11);
        due(42, "-5", x.status(5), 9);
        x.odds(0, 0, 2, 1);
        x.turned(0, 0, 0, 5);
        due(13, "other RUNS aren't KEPT", x.run(0), -5);
        x.go(0, 0, 0);
        x.odds(0, 1, 2, 1);
        x.turned(0, 0, 0, 5);
        x.beyond(0, 0, 0, 0);
        due(13, "other RUNS don't change it", x.run(0), 2);
        tell(x, 0, 0, "cells 3;");
        tell(x, 2, 0, "run 9;");
        due(14, "nor do texts", x.why(), 1);
        due(11, "nor do texts", x.piece(0), 3);
    }

    private static void why() {
        RodInThree x = inThree();
        tell(x, 2, 0, "bounce 50;die 0;run 7;twist 3;");
        x.go(0, 0, 0);
        due(14, "(7 less 3) times 1", x.why(), 4);
        tell(x, 2, 0, "bounce 50;die 0;run 1;twist 9;");
        x.go(0, 0, 0);
        due(14, "below 0", x.why(), -8);
        tell(x, 2, 0, "bounce 0;run 7;");
        x.go(0, 0, 0);
        due(14, "of one BREAK", x.why(), 0);
        x.go(0, 3, 0);
        due(14, "of none", x.why(), 0);
    }

    private static void film() {
        RodInThree x = inThree();
        x.go(0, 0, 0);
        tellRow(x, 0, 0, 10, 12);
        due(15, "10 12", x.film(0), 1);
        tellRow(x, 0, 3, 10, 12, -1, 7);
        due(15, "10 12 -1 7", x.film(0), 1);
        tellRow(x, 0, 3, 10, 12, 0);
        due(15, "10 12 0", x.film(0), 0);
        tellRow(x, 0, 3, 10);
        due(15, "10", x.film(0), 0);
        tellRow(x, 0, 3, 10, -5, 12);
        due(15, "10 -5 12", x.film(0), 0);
        tellRow(x, 0, 3, 10, 13);
        due(15, "10 13", x.film(0), 0);
        tellRow(x, 0, 3, 12, 10);
        due(15, "12 10", x.film(0), 0);
        tellRow(x, 0, 3, 10 + (1L << 32), 12);
        due(15, "a far greater number", x.film(0), 0);
        x.row(0, 0, 0);
        due(15, "no number", x.film(0), 0);
        x.go(0, 3, 0);
        due(15, "no number, no BREAK", x.film(0), 1);
        tellRow(x, 0, 0, 0);
        due(15, "0, no BREAK", x.film(0), 0);
        tellRow(x, 0, 0, -1, 3);
        due(15, "-1 3, no BREAK", x.film(0), 1);
        due(15, "a MISSING one", x.film(3), -6);
        due(15, "ROW 4", x.film(4), -2);
        due(15, "ROW -1", x.film(-1), -2);
    }

    private static void beyond() {
        RodInThree x = inThree();
        due(16, "greatest", x.beyond(0, 0, 0, 0), 151);
        due(16, "of like ones the least", x.beyond(0, 0, 0, 1), 1);
        due(16, "above 999", x.beyond(0, 0, 0, 2), 151 - 999);
        tell(x, 0, 0, "cells 5;strong 999;strong 100 at 2;strong 150 at 3;stiff 9 at 3;");
        due(16, "greatest: 107 and 55", x.beyond(0, 0, 0, 0), 162);
        due(16, "at 3", x.beyond(0, 0, 0, 1), 3);
        due(16, "above 150", x.beyond(0, 0, 0, 2), 12);
        tell(x, 1, 1, "turn 99 for 99;bend 10 for 20;");
        due(16, "a TURN takes nothing", x.beyond(0, 1, 0, 0), 162);
        tell(x, 1, 1, "turn 99 for 99;");
        due(16, "nothing breaks", x.beyond(0, 1, 0, 0), NONE);
        due(16, "nowhere", x.beyond(0, 1, 0, 1), NONE);
        due(16, "above nothing", x.beyond(0, 1, 0, 2), -100000);
        tell(x, 2, 0, "bounce 0;");
        due(16, "no cell is come to", x.beyond(0, 0, 0, 0), NONE);
        due(16, "at none", x.beyond(0, 0, 0, 1), NONE);
        due(16, "above none", x.beyond(0, 0, 0, 2), -100000);
        due(42, "not refused", x.status(2), 0);
        due(16, "what 3", x.beyond(0, 0, 0, 3), -2);
        due(16, "what -1", x.beyond(0, 0, 0, -1), -2);
        due(16, "rod 1", x.beyond(1, 0, 0, 0), -2);
        due(16, "doings 4", x.beyond(0, 4, 0, 0), -2);
        // Without other BREAKS the WAVE to the right goes on over cell 3, to 4: 60 and 55.
        tell(x, 2, 0, "bounce 50;die 0;echo 100;");
        tell(x, 0, 0, "cells 5;strong 999;strong 100 at 2;strong 20 at 3;stiff 99 at 1 at 3;stiff 9 at 4;");
        due(16, "nothing else breaks: 67 and 55", x.beyond(0, 0, 0, 0), 122);
        due(16, "at 4", x.beyond(0, 0, 0, 1), 4);
        x = bySeeds();
        due(16, "by seed 4: 145 above 138", x.beyond(0, 0, 4, 2), 7);
        due(16, "by seed 1: 140 above 162", x.beyond(0, 0, 1, 2), -22);
    }

    private static void oddsAndEnds() {
        RodInThree x = bySeeds();
        int[] pieces = {2, 2, 2, 3, 3};
        int[] ticks = {79, 80, 82, 82, 83};
        for (int seed = 1; seed <= 5; seed++) {
            due(9, "by seed " + seed, x.go(0, 0, seed), pieces[seed - 1]);
            due(10, "TICK by seed " + seed, x.broke(0, 1), ticks[seed - 1]);
            due(10, "KIND by seed " + seed, x.broke(0, 2), 4);
        }
        due(17, "two of 5", x.odds(0, 0, 2, 5), 3);
        due(17, "three of 5", x.odds(0, 0, 3, 5), 2);
        due(17, "three of 4", x.odds(0, 0, 3, 4), 1);
        due(17, "three of 1", x.odds(0, 0, 3, 1), 0);
        due(17, "whole of 5", x.odds(0, 0, 1, 5), 0);
        due(17, "four of 5", x.odds(0, 0, 4, 5), 0);
        due(17, "whole of 100", x.odds(0, 1, 1, 100), 100);
        due(18, "at cell 0", x.ends(0, 0, 0, 5), 2);
        due(18, "at cell 1", x.ends(0, 0, 1, 5), 5);
        due(18, "at cell 1 of 100", x.ends(0, 0, 1, 100), 100);
        due(18, "at cell 2", x.ends(0, 0, 2, 5), 0);
        for (int n : new int[] {0, 101, -1}) {
            due(17, "n " + n, x.odds(0, 0, 2, n), -3);
            due(18, "n " + n, x.ends(0, 0, 0, n), -3);
        }
        due(17, "pieces 0", x.odds(0, 0, 0, 5), -3);
        due(17, "pieces 5", x.odds(0, 0, 5, 5), -3);
        due(17, "rod 1", x.odds(1, 0, 2, 5), -2);
        due(17, "doings 4", x.odds(0, 4, 2, 5), -2);
        due(18, "rod 1", x.ends(1, 0, 0, 5), -2);
        due(18, "doings 4", x.ends(0, 4, 0, 5), -2);
        due(18, "cell 3", x.ends(0, 0, 3, 5), -2);
        due(18, "cell -1", x.ends(0, 0, -1, 5), -2);
        x = with("cells 9;", "bend 1 for 200;", "");
        due(17, "four and more", x.odds(0, 0, 4, 2), 2);
        due(17, "not three", x.odds(0, 0, 3, 2), 0);
    }

    private static void pacedAndLine() {
        RodInThree x = inThree();
        due(19, "paced by 1", x.paced(0, 0, 0, 1), 3);
        due(19, "paced by 2: 52 and 92", x.paced(0, 0, 0, 2), 2);
        due(19, "paced by 9: by 1 for 180", x.paced(0, 0, 0, 9), 2);
        due(22, "line at 1", x.line(0, 0, 0, 1), 2);
        due(22, "line at 2", x.line(0, 0, 0, 2), 0);
        due(22, "line at 9", x.line(0, 0, 0, 9), 0);
        tell(x, 1, 0, "bend 9 for 20;");
        due(19, "by 9 for 20: 108 and 49", x.paced(0, 0, 0, 1), 2);
        due(19, "cut: 9 by 5 is 1 for 100", x.paced(0, 0, 0, 5), 1);
        due(22, "none", x.line(0, 0, 0, 5), NONE);
        for (int p : new int[] {0, 10, -1}) {
            due(19, "p " + p, x.paced(0, 0, 0, p), -3);
            due(22, "p " + p, x.line(0, 0, 0, p), -3);
        }
        due(19, "rod 1", x.paced(1, 0, 0, 1), -2);
        due(19, "doings 4", x.paced(0, 4, 0, 1), -2);
        due(22, "rod 1", x.line(1, 0, 0, 1), -2);
        due(22, "doings -1", x.line(0, -1, 0, 1), -2);
        x = with("cells 3;strong 399;", "rest for 200;rest for 200;bend 9 for 200;", "");
        due(19, "BEND 400 at TICK 3999, no WAVE then", x.paced(0, 0, 0, 9), 2);
        due(19, "BEND 400 at TICK 3599", x.paced(0, 0, 0, 8), 3);
        tell(x, 2, 0, "run 1;");
        due(19, "a WAVE that would come at TICK 4000", x.paced(0, 0, 0, 9), 2);
        tell(x, 1, 1, "bend 99 for 5;");
        tell(x, 0, 1, "cells 9;strong 999;strong 100 at 4;");
        due(9, "another RUN then", x.go(1, 1, 0), 2);
        due(12, "has its own WAVES alone", x.run(2), 2);
        due(13, "and its own TICKS", x.run(4), 7);
        tell(x, 0, 0, "cells 3;strong 400;");
        due(19, "BEND 401 at TICK 4000", x.paced(0, 0, 0, 9), 1);
    }

    private static void turnedAndLeast() {
        RodInThree x = inThree();
        due(20, "turned by 0", x.turned(0, 0, 0, 0), 3);
        due(20, "turned by 1", x.turned(0, 0, 0, 1), 3);
        due(20, "turned by 2", x.turned(0, 0, 0, 2), 2);
        due(20, "turned by 999", x.turned(0, 0, 0, 999), 2);
        due(20, "turned by 1000", x.turned(0, 0, 0, 1000), -3);
        due(20, "turned by -1", x.turned(0, 0, 0, -1), -3);
        due(20, "rod 1", x.turned(1, 0, 0, 0), -2);
        due(20, "doings 4", x.turned(0, 4, 0, 0), -2);
        tell(x, 1, 1, "turn 99 for 99;bend 10 for 20;");
        due(20, "in place of its own", x.turned(0, 1, 0, 0), 3);
        due(21, "least", x.least(0, 0, 0), 2);
        due(21, "least, its own doesn't count", x.least(0, 1, 0), 2);
        due(21, "nothing breaks", x.least(0, 2, 0), NONE);
        due(21, "rod 1", x.least(1, 0, 0), -2);
        due(21, "doings 4", x.least(0, 4, 0), -2);
        tell(x, 2, 0, "bounce 50;die 0;takes 1;");
        due(21, "least by 1 of 100", x.least(0, 0, 0), 100);
        tell(x, 2, 0, "bounce 50;die 0;takes 0;");
        due(21, "none does", x.least(0, 0, 0), NONE);
        tell(x, 2, 0, "bounce 50;die 0;run 1;twist 2;");
        due(21, "too slow", x.least(0, 0, 0), NONE);
        tell(x, 2, 0, "bounce 0;");
        due(21, "none is needed", x.least(0, 0, 0), 0);
        tell(x, 1, 1, "bend 99 for 1;");
        tell(x, 0, 0, "cells 5;strong 400;strong 1 at 2;stiff 1;");
        tell(x, 2, 0, "bounce 50;die 0;takes 100;");
        due(21, "871 and 495 less 966", x.least(0, 1, 0), 966);
        tell(x, 0, 0, "cells 5;strong 367;strong 1 at 2;stiff 1;");
        due(21, "999 at most", x.least(0, 1, 0), 999);
        tell(x, 0, 0, "cells 5;strong 366;strong 1 at 2;stiff 1;");
        due(21, "1000 would do", x.least(0, 1, 0), NONE);
    }

    private static void notchedAndNotch() {
        RodInThree x = inThree();
        due(23, "notched by 0", x.notched(0, 0, 0, 2, 0), 3);
        due(23, "by 1: breaks by 100", x.notched(0, 0, 0, 2, 1), 2);
        due(23, "by 99 at 3: breaks there first", x.notched(0, 0, 0, 3, 99), 2);
        due(23, "the ROD stays", x.cell(0, 3, 2), 0);
        due(23, "notch 100", x.notched(0, 0, 0, 3, 100), -3);
        due(23, "notch -1", x.notched(0, 0, 0, 3, -1), -3);
        due(23, "cell 5", x.notched(0, 0, 0, 5, 1), -2);
        due(23, "cell -1", x.notched(0, 0, 0, -1, 1), -2);
        due(23, "rod 1", x.notched(1, 0, 0, 0, 1), -2);
        due(23, "doings 4", x.notched(0, 4, 0, 0, 1), -2);
        due(24, "notch", x.notch(0, 0, 0, 0), 1);
        due(24, "its cell", x.notch(0, 0, 0, 1), 2);
        due(24, "nothing breaks", x.notch(0, 1, 0, 0), NONE);
        due(24, "nowhere", x.notch(0, 1, 0, 1), NONE);
        due(24, "what 2", x.notch(0, 0, 0, 2), -2);
        due(24, "what -1", x.notch(0, 0, 0, -1), -2);
        due(24, "rod 1", x.notch(1, 0, 0, 0), -2);
        due(24, "doings 4", x.notch(0, 4, 0, 0), -2);
        tell(x, 1, 1, "turn 50 for 1;bend 10 for 20;");
        due(9, "with TURN", x.go(0, 1, 0), 2);
        due(23, "without TURN", x.notched(0, 1, 0, 2, 0), 3);
        due(24, "without TURN", x.notch(0, 1, 0, 0), 1);
        tell(x, 0, 0, "cells 5;strong 999;strong 200 at 2;strong 300 at 3;notch 50 at 2 to 3;");
        due(24, "anew, in place of its own, the other one stays", x.notch(0, 0, 0, 0), 0);
        due(24, "at 3", x.notch(0, 0, 0, 1), 3);
        x = inThree();
        tell(x, 2, 0, "bounce 50;die 0;takes 100;");
        due(23, "no TURN at all", x.notched(0, 0, 0, 2, 0), 3);
        x = with("cells 3;strong 999;", "bend 1 for 10;", "bounce 0;");
        due(24, "99 at most: strong 9", x.notch(0, 0, 0, 0), 99);
        due(24, "in the middle", x.notch(0, 0, 0, 1), 1);
        tell(x, 1, 0, "bend 1 for 14;");
        due(24, "at the least cell: 14 times 75 by 100", x.notch(0, 0, 0, 1), 0);
        tell(x, 0, 0, "cells 60;strong 999;");
        tell(x, 1, 0, "bend 1 for 9;");
        due(24, "of 60 cells none", x.notch(0, 0, 0, 1), NONE);
    }

    private static void longer() {
        RodInThree x = with("cells 3;strong 50 at 0;", "bend 1 for 60;", "");
        due(9, "as it is", x.go(0, 0, 0), 1);
        due(25, "3 as cell 0", x.longer(0, 0, 0, 3), 3);
        due(25, "60 as cell 0", x.longer(0, 0, 0, 60), 60);
        due(25, "2", x.longer(0, 0, 0, 2), -3);
        due(25, "61", x.longer(0, 0, 0, 61), -3);
        due(25, "rod 1", x.longer(1, 0, 0, 3), -2);
        due(25, "doings 4", x.longer(0, 4, 0, 3), -2);
        due(25, "the ROD stays", x.cell(0, 1, 1), 100);
        tell(x, 2, 0, "bounce 0;");
        due(25, "one BREAK", x.longer(0, 0, 0, 4), 2);
        tell(x, 0, 0, "cells 3;strong 999;strong 80 at 0;flaws 50;");
        due(25, "with its flaws: 80 less 23 by seed 0", x.longer(0, 0, 0, 3), 2);
        due(25, "with its flaws: 80 less 18 by seed 3", x.longer(0, 0, 3, 3), 1);
        tell(x, 0, 0, "cells 3;strong 999;strong 50 at 0;damp at 0;");
        tell(x, 2, 0, "ring 0;");
        due(25, "with its STUFF", x.longer(0, 0, 0, 3), 2);
        tell(x, 0, 0, "cells 3;strong 100 at 0;notch 41 at 0;strong 999 at 1 to 2;");
        tell(x, 2, 0, "bounce 0;");
        due(25, "with its notch", x.longer(0, 0, 0, 3), 2);
        tell(x, 0, 0, "cells 3;stiff 5 at 0;");
        due(25, "with its stiff", x.longer(0, 0, 0, 3), 2);
    }

    private static void thinner() {
        RodInThree x = with("cells 3;", "bend 1 for 30;", "bounce 0;");
        int[][] parts = {{100, 1}, {61, 1}, {60, 1}, {59, 2}, {55, 2}, {50, 2}, {1, 2}, {0, -3}, {101, -3}, {-1, -3}};
        for (int[] p : parts) due(26, "part " + p[0], x.thinner(0, 0, 0, p[0]), p[1]);
        due(26, "the ROD stays", x.cell(0, 0, 0), 10);
        due(26, "rod 1", x.thinner(1, 0, 0, 50), -2);
        due(26, "doings 4", x.thinner(0, 4, 0, 50), -2);
        tell(x, 0, 1, "cells 3;strong 999;strong 60 at 0;");
        due(26, "cell 0, too: 45 above 30", x.thinner(1, 0, 0, 50), 2);
        tell(x, 0, 1, "cells 3;strong 99;");
        tell(x, 1, 1, "bend 1 for 1;");
        due(26, "stiff 1: 10 above 9", x.thinner(1, 1, 0, 10), 2);
        tell(x, 1, 1, "bend 1 for 36;");
        due(26, "60 isn't above 60", x.thinner(0, 1, 0, 60), 1);
        tell(x, 1, 1, "bend 1 for 37;");
        due(26, "61 is", x.thinner(0, 1, 0, 60), 2);
        tell(x, 0, 0, "cells 3;strong 1;stiff 99;");
        tell(x, 1, 0, "bend 1 for 10;");
        due(26, "strong 1 at least, stiff 49: 10 times 100 by 490", x.thinner(0, 0, 0, 50), 2);
        due(26, "stiff 50: 10 times 100 by 500", x.thinner(0, 0, 0, 51), 2);
        due(26, "stiff 51: 10 times 100 by 510", x.thinner(0, 0, 0, 52), 1);
    }

    private static void beside() {
        RodInThree x = with("cells 3;", "bend 1 for 100;", "bounce 0;");
        tell(x, 0, 1, "cells 3;stiff 20;strong 20;");
        tell(x, 0, 2, "cells 4;");
        due(27, "1 and 2", x.beside(0, 1, 0, 0), 3);
        due(27, "2 and 1", x.beside(1, 0, 0, 0), 3);
        due(27, "both are one", x.beside(1, 1, 0, 0), -3);
        due(27, "not as many cells", x.beside(0, 2, 0, 0), -3);
        due(27, "rod 3", x.beside(0, 3, 0, 0), -2);
        due(27, "rod 3, first", x.beside(3, 0, 0, 0), -2);
        due(27, "doings 4", x.beside(0, 1, 4, 0), -2);
        due(27, "the RODS stay", x.cell(0, 0, 0), 10);
        tell(x, 0, 1, "cells 3;stiff 20;strong 33;");
        due(27, "100 times 100 by 300 is 33", x.beside(0, 1, 0, 0), 2);
        tell(x, 0, 1, "cells 3;stiff 20;strong 53;flaws 50;");
        due(27, "by a seed: 53 less 20", x.beside(0, 1, 0, 2), 2);
        due(27, "by a seed: 53 less 21", x.beside(0, 1, 0, 1), 3);
    }

    private static void never() {
        RodInThree x = bySeeds();
        tell(x, 0, 2, "cells 3;");
        tell(x, 0, 3, "cells 3;strong 999;");
        due(28, "by seed 1", x.never(0, 1), 1 + 8);
        due(28, "by seeds 1 to 3", x.never(0, 3), 1 + 8);
        due(28, "by seeds 1 to 4", x.never(0, 4), 8);
        due(28, "nothing is done", x.never(1, 100), 1 + 4 + 8);
        due(28, "n 0", x.never(0, 0), -3);
        due(28, "n 101", x.never(0, 101), -3);
        due(28, "doings 4", x.never(4, 1), -2);
        due(28, "doings -1", x.never(-1, 0), -2);
        due(28, "no RODS", new RodInThree().never(0, 1), 0);
    }

    private static void readAndWas() {
        RodInThree x = bySeeds();
        tellRow(x, 0, 0, 2, 1);
        due(29, "2 1", x.read(0, 0, 5, 0), 3);
        due(29, "likely", x.read(0, 0, 5, 1), 0);
        due(29, "likely by one", x.read(0, 0, 1, 1), 0);
        due(30, "at 1", x.was(0, 0, 5, 1), 3);
        due(30, "at 0", x.was(0, 0, 5, 0), 0);
        tell(x, 1, 3, "bend 1 for 200;");
        due(29, "by two DOINGS", x.read(0, 0, 5, 0), 6);
        due(29, "the least", x.read(0, 0, 5, 1), 0);
        due(30, "by two DOINGS", x.was(0, 0, 5, 1), 6);
        tell(x, 1, 0, "bend 1 for 81;");
        due(29, "seeds 1 and 2, and 1 to 3", x.read(0, 0, 5, 0), 5);
        due(29, "most", x.read(0, 0, 5, 1), 3);
        tellRow(x, 0, 2, 1, 1, 1, 0, 7);
        due(29, "1 1 1, up to the 0", x.read(0, 0, 5, 0), 2);
        due(29, "likely", x.read(0, 0, 5, 1), 3);
        due(30, "at 1", x.was(0, 0, 5, 1), 2);
        tellRow(x, 0, 2, 3);
        due(29, "whole: 5 and 5 of empty ones, 3 of DOINGS 0", x.read(0, 0, 5, 0), 13);
        due(29, "whole: likely", x.read(0, 0, 5, 1), 1);
        due(30, "whole: no BREAK", x.was(0, 0, 5, 1), 0);
        tellRow(x, 0, 2, 1, 1);
        due(29, "1 1", x.read(0, 0, 5, 0), 0);
        due(29, "likely", x.read(0, 0, 5, 1), NONE);
        tellRow(x, 0, 2, 2, 1, -1);
        due(29, "2 1 -1", x.read(0, 0, 5, 0), 0);
        tellRow(x, 0, 2, 0, 2, 1);
        due(29, "none ahead of 0", x.read(0, 0, 5, 0), 0);
        due(29, "MISSING", x.read(0, 1, 5, 0), -6);
        due(30, "MISSING", x.was(0, 1, 5, 0), -6);
        for (int n : new int[] {0, 101}) {
            due(29, "n " + n, x.read(0, 0, n, 0), -3);
            due(30, "n " + n, x.was(0, 0, n, 0), -3);
        }
        due(29, "what 2", x.read(0, 0, 5, 2), -2);
        due(29, "what -1", x.read(0, 0, 5, -1), -2);
        due(29, "rod 1", x.read(1, 0, 5, 0), -2);
        due(29, "row 4", x.read(0, 4, 5, 0), -2);
        due(29, "row -1", x.read(0, -1, 5, 0), -2);
        due(30, "rod 1", x.was(1, 0, 5, 0), -2);
        due(30, "row 4", x.was(0, 4, 5, 0), -2);
        due(30, "cell 3", x.was(0, 0, 5, 3), -2);
        due(30, "cell -1", x.was(0, 0, 5, -1), -2);
    }

    private static void look(RodInThree x, String test, int runs, int first) {
        due(3, "a LOOK " + test, tell(x, 3, 0, "seek if crushed;seek if " + test + ";"), 2);
        due(31, test + ": how many", x.found(1, 0, 0, 5, 0), runs);
        due(31, test + ": the first", x.found(1, 0, 0, 5, 1), first);
    }

    private static void found() {
        RodInThree x = bySeeds();
        look(x, "flawed", 5, 1);
        look(x, "crushed", 0, NONE);
        look(x, "not crushed", 5, 1);
        look(x, "pieces 1", 5, 1);
        look(x, "pieces 2", 5, 1);
        look(x, "pieces 3", 2, 4);
        look(x, "pieces 61", 0, NONE);
        look(x, "waved 0", 5, 1);
        look(x, "waved 1", 2, 4);
        look(x, "waved 2", 0, NONE);
        look(x, "late 0", 5, 1);
        look(x, "late 1", 0, NONE);
        look(x, "offs 0", 5, 1);
        look(x, "offs 1", 0, NONE);
        look(x, "first 1", 5, 1);
        look(x, "first 0", 0, NONE);
        look(x, "longest 1", 5, 1);
        look(x, "longest 2", 3, 1);
        look(x, "longest 3", 0, NONE);
        look(x, "shortest 1", 5, 1);
        look(x, "behind 79", 5, 1);
        look(x, "behind 82", 3, 3);
        look(x, "behind 83", 1, 5);
        look(x, "behind 84", 0, NONE);
        look(x, "behind 82 and not behind 83", 2, 3);
        look(x, "not behind 82 and behind 83", 0, NONE);
        look(x, "not(behind 82 and behind 83)", 4, 1);
        look(x, "behind 83 or behind 80 and pieces 3", 2, 4);
        look(x, "(behind 83 or behind 80)and pieces 3", 2, 4);
        look(x, "behind 80 or crushed and crushed", 4, 2);
        look(x, "(behind 80 or crushed)and crushed", 0, NONE);
        look(x, "crushed and crushed or behind 80", 4, 2);
        look(x, "not not not flawed or not(pieces 3 or behind 82)", 2, 1);
        look(x, times(8, "not ") + "pieces 3", 2, 4);
        due(31, "another LOOK", x.found(0, 0, 0, 5, 0), 0);
        tell(x, 0, 1, "cells 60;");
        tell(x, 1, 1, "bend 1 for 200;");
        tell(x, 3, 0, times(7, "seek if late 1;") + "seek if pieces 3;");
        due(31, "the 8th LOOK", x.found(7, 0, 0, 5, 0), 2);
        due(31, "the 7th LOOK", x.found(6, 0, 0, 5, 0), 0);
        due(31, "no 9th LOOK", x.found(8, 0, 0, 5, 0), -2);
        tell(x, 3, 0, "seek if crushed;seek if flawed;");
        due(31, "n 100", x.found(0, 0, 0, 100, 0), 0);
        due(31, "n 0", x.found(0, 0, 0, 0, 0), -3);
        due(31, "n 101", x.found(0, 0, 0, 101, 0), -3);
        due(31, "look 2", x.found(2, 0, 0, 5, 0), -2);
        due(31, "look -1", x.found(-1, 0, 0, 5, 0), -2);
        due(31, "rod 2", x.found(0, 2, 0, 5, 0), -2);
        due(31, "doings 4", x.found(0, 0, 4, 5, 0), -2);
        due(31, "what 2", x.found(0, 0, 0, 5, 2), -2);
        due(31, "what -1", x.found(0, 0, 0, 5, -1), -2);
        tell(x, 1, 0, "");
        for (String test : new String[] {"first 1", "behind 0", "flawed", "crushed", "pieces 2", "waved 1", "shortest 2"}) {
            look(x, test, 0, NONE);
        }
        look(x, "longest 3 and shortest 3 and pieces 1", 5, 1);
        due(23, "1 and 59", x.notched(1, 1, 0, 0, 99), 2);
        look(x, "longest 9", 0, NONE);
        due(23, "59 and 1", x.notched(1, 1, 0, 58, 99), 2);
        look(x, "shortest 2", 0, NONE);
        x = inThree();
        tell(x, 1, 0, "turn 2 for 1;bend 10 for 20;");
        look(x, "offs 1", 5, 1);
        look(x, "offs 2", 0, NONE);
        x = with("cells 5;", "bend 1 for 200;", "bounce 0;fingers 100;");
        look(x, "crushed and first 0", 5, 1);
        look(x, "shortest 1 and longest 4", 5, 1);
        look(x, "longest 5", 0, NONE);
    }

    private static void middle() {
        RodInThree x = bySeeds();
        int[] due = {2, 2, 1, 1};
        for (int what = 0; what < 4; what++) due(32, "what " + what, x.middle(0, 0, 5, what), due[what]);
        int[] none = {0, 0, NONE, NONE};
        for (int what = 0; what < 4; what++) due(32, "none, what " + what, x.middle(0, 0, 3, what), none[what]);
        due(32, "what 4", x.middle(0, 0, 5, 4), -2);
        due(32, "what -1", x.middle(0, 0, 5, -1), -2);
        due(32, "rod 1", x.middle(1, 0, 5, 0), -2);
        due(32, "doings 4", x.middle(0, 4, 5, 0), -2);
        due(32, "n 0", x.middle(0, 0, 0, 0), -3);
        due(32, "n 101", x.middle(0, 0, 101, 0), -3);
        // Cells 3, 1 and 6 break: 2, 2, 3, 2.
        x = with("cells 9;strong 999;strong 50 at 3;strong 60 at 1;strong 70 at 6;", "bend 99 for 1;", "die 0;");
        due(9, "four", x.go(0, 0, 0), 4);
        int[] lengths = {2, 2, 3, 2};
        for (int i = 0; i < 4; i++) due(11, "of four, " + i, x.piece(i), lengths[i]);
        int[] four = {3, 6, 2, 3};
        for (int what = 0; what < 4; what++) due(32, "of four, what " + what, x.middle(0, 0, 3, what), four[what]);
    }

    private static void filmed() {
        RodInThree x = bySeeds();
        tellRow(x, 2, 0, 82);
        due(33, "82: how many", x.filmed(0, 0, 2, 5, 0), 1);
        due(33, "82: the first", x.filmed(0, 0, 2, 5, 1), 3);
        tellRow(x, 2, 0, 82, 84, -1, 5);
        due(33, "82 84: how many", x.filmed(0, 0, 2, 5, 0), 1);
        due(33, "82 84: the first", x.filmed(0, 0, 2, 5, 1), 4);
        tellRow(x, 2, 0, 81);
        due(33, "81: how many", x.filmed(0, 0, 2, 5, 0), 0);
        due(33, "81: the first", x.filmed(0, 0, 2, 5, 1), NONE);
        x.row(2, 0, 0);
        due(33, "no BREAK", x.filmed(0, 1, 2, 100, 0), 100);
        due(33, "no BREAK: the first", x.filmed(0, 1, 2, 100, 1), 1);
        due(33, "MISSING", x.filmed(0, 0, 1, 5, 0), -6);
        due(33, "n 0", x.filmed(0, 0, 2, 0, 0), -3);
        due(33, "n 101", x.filmed(0, 0, 2, 101, 0), -3);
        due(33, "rod 1", x.filmed(1, 0, 2, 5, 0), -2);
        due(33, "doings 4", x.filmed(0, 4, 2, 5, 0), -2);
        due(33, "row 4", x.filmed(0, 0, 4, 5, 0), -2);
        due(33, "row -1", x.filmed(0, 0, -1, 5, 0), -2);
        due(33, "what 2", x.filmed(0, 0, 2, 5, 2), -2);
        due(33, "what -1", x.filmed(0, 0, 2, 5, -1), -2);
    }

    private static void swapped() {
        RodInThree x = with("cells 4;damp at 2;strong 999 at 0 at 3;", "bend 1 for 200;", "ring 0;die 0;bounce 50;");
        due(9, "as it is", x.go(0, 0, 0), 2);
        due(34, "end for end", x.swapped(0, 0, 0), 3);
        due(34, "the ROD stays", x.cell(0, 2, 3), 2);
        due(34, "rod 1", x.swapped(1, 0, 0), -2);
        due(34, "doings 4", x.swapped(0, 4, 0), -2);
        x = bySeeds();
        due(34, "cell 2 has 170 less 11 by seed 4", x.swapped(0, 0, 4), 2);
        tell(x, 1, 1, "bend 1 for 81;");
        due(34, "cell 1 has 100 less 20 by seed 2", x.swapped(0, 1, 2), 2);
        due(34, "cell 1 has 100 less 18 by seed 3", x.swapped(0, 1, 3), 1);
    }

    private static void grid() {
        RodInThree x = inThree();
        due(35, "all but t 0 at p 1", x.grid(0, 0, 0), 179);
        due(35, "nothing breaks", x.grid(0, 1, 0), 0);
        due(35, "rod 1", x.grid(1, 0, 0), -2);
        due(35, "doings 4", x.grid(0, 4, 0), -2);
        tell(x, 1, 1, "bend 3 for 50;");
        due(35, "p 1 (102 and 51: 140), 2 (by 1, 100 in all) and 3 (150 in all)", x.grid(0, 1, 0), 40);
        tell(x, 2, 0, "bounce 50;die 0;takes 1;");
        due(35, "takes t by 100: from 100 on", x.grid(0, 0, 0), 178);
        tell(x, 0, 0, "cells 5;strong 999;strong 100 at 2;strong 143 at 3;");
        due(35, "takes 8 at least: from 800 on; at p 2 one", x.grid(0, 0, 0), 4 + 18 + 140);
    }

    private static void flies() {
        RodInThree x = inThree();
        x.go(0, 0, 0);
        int[] by = {36, 261, 151, -2};
        for (int i = 0; i < 4; i++) due(36, "PIECE " + i, x.flies(i), by[i]);
        due(36, "PIECE -1", x.flies(-1), -2);
        x.go(0, 1, 0);
        due(36, "a whole one", x.flies(0), 0);
        x = with("cells 5;strong 999 at 0;", "bend 1 for 200;", "bounce 0;fingers 100;");
        x.go(0, 0, 0);
        due(36, "102 at its own last cell, by 5", x.flies(0), 20);
        due(36, "none behind", x.flies(1), -2);
    }

    private static void rows() {
        RodInThree x = new RodInThree();
        due(38, "MISSING", x.write(0, 0, 5), -6);
        long[][] cut = {{200, -56}, {40000, -25536}, {3000000000L, -1294967296L}, {Long.MIN_VALUE, Long.MIN_VALUE}};
        for (int sort = 0; sort < 4; sort++) {
            due(37, "sort " + sort, x.row(sort, sort, 60), 0);
            due(38, "cut to sort " + sort, x.write(sort, 59, cut[sort][0]), cut[sort][1]);
            due(38, "60 of sort " + sort, x.write(sort, 60, 1), -7);
            due(38, "-1 of sort " + sort, x.write(sort, -1, 1), -7);
        }
        due(38, "127", x.write(0, 0, 127), 127);
        due(38, "-129", x.write(0, 0, -129), 127);
        due(38, "2 to the 32th", x.write(2, 0, 1L << 32), 0);
        due(38, "ROW 4", x.write(4, 0, 1), -2);
        due(38, "ROW -1", x.write(-1, 0, 1), -2);
        due(37, "ROW 4", x.row(4, 0, 1), -2);
        due(37, "ROW -1", x.row(-1, 0, 1), -2);
        due(37, "sort 4", x.row(0, 4, 1), -2);
        due(37, "sort -1", x.row(0, -1, 1), -2);
        due(37, "n 61", x.row(0, 1, 61), -3);
        due(37, "n -1", x.row(0, 1, -1), -3);
        due(37, "the ROW stays, and its sort", x.write(0, 59, 200), -56);
        due(37, "n 0", x.row(0, 0, 0), 0);
        due(38, "of none", x.write(0, 0, 1), -7);
        // All numbers of a new ROW are 0, so it tells no PIECES ahead of the first that is written.
        tell(x, 0, 0, "cells 3;");
        tellRow(x, 1, 0, 3, 3, 3);
        x.row(1, 0, 3);
        x.write(1, 0, 3);
        due(37, "all 0", x.read(0, 1, 1, 0), 4);
    }

    private static void keep() {
        RodInThree x = inThree();
        x.go(0, 0, 0);
        x.row(0, 2, 60);
        x.write(0, 3, 9);
        due(39, "PIECES", x.keep(0, 0), 3);
        due(29, "are there, and 9 behind", x.read(0, 0, 1, 0), 0);
        x.write(0, 3, 0);
        due(29, "are there", x.read(0, 0, 1, 0), 1);
        x.write(0, 2, -1);
        due(39, "TICKS", x.keep(0, 1), 2);
        due(15, "are there", x.film(0), 1);
        x.row(1, 0, 1);
        due(39, "as many as it has", x.keep(1, 0), 1);
        x.row(1, 0, 0);
        due(39, "none", x.keep(1, 0), 0);
        due(39, "MISSING", x.keep(2, 0), -6);
        due(39, "ROW 4", x.keep(4, 0), -2);
        due(39, "ROW -1", x.keep(-1, 0), -2);
        due(39, "what 2", x.keep(0, 2), -2);
        due(39, "what -1", x.keep(0, -1), -2);
        x.go(0, 1, 0);
        due(39, "no TICKS", x.keep(0, 1), 0);
        tell(x, 1, 1, "rest for 200;bend 10 for 20;");
        x.go(0, 1, 0);
        x.row(1, 0, 2);
        due(39, "TICKS 210 and 212", x.keep(1, 1), 2);
        due(39, "cut: below 0", x.film(1), 0);
        x.row(1, 1, 2);
        x.keep(1, 1);
        due(39, "not cut", x.film(1), 1);
    }

    private static void images() {
        RodInThree x = inThree();
        tell(x, 3, 0, "seek if pieces 3;");
        due(40, "without a KEPT RUN", x.image(1), 0);
        x.go(0, 0, 0);
        due(40, "image", x.image(0), 0);
        tell(x, 0, 0, "cells 3;");
        tell(x, 0, 2, "cells 4;");
        tell(x, 1, 0, "rest for 1;rest for 1;");
        tell(x, 2, 0, "run 9;");
        tell(x, 3, 0, "");
        x.go(2, 0, 0);
        tellRow(x, 0, 0, 7);
        tell(x, 2, 0, "runs");
        x.feed(0, 0, 0, 0, 0);
        x.row(9, 0, 0);
        due(41, "restore", x.restore(0), 0);
        due(41, "the ROD", x.rod(0, 0), 5);
        due(41, "its cells", x.cell(0, 3, 1), 150);
        due(41, "another ROD", x.rod(2, 0), -2);
        due(41, "DOINGS", x.count(20), 1);
        due(41, "DOINGS bend", x.bent(0, 0, false), 10);
        due(41, "THE LAW", x.count(4), 2);
        due(41, "bounce", x.count(2), 50);
        due(41, "LINES", x.count(10), 2);
        due(41, "LOOKS", x.count(11), 1);
        due(41, "a LOOK", x.found(0, 0, 0, 1, 0), 1);
        due(41, "the KEPT RUN", x.run(1), 3);
        due(41, "its BREAK", x.broke(1, 3), 151);
        due(41, "its WAVE", x.wave(3, 3), 75);
        due(41, "its PIECE", x.piece(0), 3);
        due(41, "why", x.why(), 1);
        due(41, "not THE TAPE", x.count(0), 20);
        due(41, "not the FAULT", x.fault(0), 2);
        due(41, "not ROWS", x.film(0), 0);
        due(41, "not what was refused", x.status(2), 2);
        due(41, "not what was refused by a FAULT", x.status(1), 1);
        tell(x, 0, 0, "cells 7;");
        due(41, "the IMAGE stays as it was", x.restore(0), 0);
        due(41, "as it was", x.rod(0, 0), 5);
        due(41, "another one", x.restore(1), 0);
        due(41, "no RUN was KEPT", x.run(0), -5);
        due(41, "and back", x.restore(0), 0);
        due(41, "one was", x.run(0), 2);
        tell(x, 0, 0, "cells 8;");
        due(40, "in place of another one", x.image(0), 0);
        tell(x, 0, 0, "cells 9;");
        x.restore(0);
        due(40, "the new one", x.rod(0, 0), 8);
        for (int i : new int[] {-1, 2}) {
            due(40, "image " + i, x.image(i), -2);
            due(41, "restore " + i, x.restore(i), -2);
        }
        due(41, "none was made", new RodInThree().restore(1), -5);
    }

    private static void status() {
        RodInThree x = new RodInThree();
        x.rod(0, 0);
        x.go(0, 0, 0);
        x.bent(0, 4000, true);
        x.never(0, 0);
        x.row(0, 0, 61);
        x.why();
        x.write(0, 0, 0);
        x.row(0, 0, 1);
        x.write(0, 1, 0);
        x.write(0, 2, 0);
        tell(x, 2, 0, "run;");
        tell(x, 2, 0, "run 2");
        tell(x, 2, 0, "run 0;");
        x.fault(7);
        x.count(99);
        x.status(0);
        int[] due = {NONE, 3, 2, 3, NONE, 1, 1, 2, NONE, NONE, NONE};
        for (int what = 0; what < due.length; what++) due(42, "what " + what, x.status(what), due[what]);
        due(42, "what -2", x.status(-2), NONE);
        due(42, "what 12", x.status(12), NONE);
    }

    private static void count() {
        RodInThree x = new RodInThree();
        int[] without = {0, 0, 100, 5, 2, 1, 50, 0, 20, 0, 0, 0, NONE};
        for (int what = 0; what < without.length; what++) due(43, "what " + what + " of a new one", x.count(what), without[what]);
        tell(x, 0, 0, "cells 3;");
        tell(x, 0, 3, "cells 3;");
        tell(x, 0, 3, "cells 4;");
        for (int k = 0; k < 4; k++) tell(x, 1, k, times(k + 1, "rest for 200;"));
        tell(x, 2, 0, "bounce 11;die 12;run 3;twist 4;takes 15;echo 16;ring 17;fingers 18;");
        tell(x, 3, 0, times(3, "seek if flawed;"));
        x.feed(0, 0, 0, 0, 0);
        int[] due = {20, 2, 11, 12, 3, 4, 15, 16, 17, 18, 8, 3, NONE};
        for (int what = 0; what < due.length; what++) due(43, "what " + what, x.count(what), due[what]);
        for (int k = 0; k < 4; k++) {
            due(43, "STEPS " + k, x.count(20 + k), k + 1);
            due(43, "TICKS " + k, x.count(30 + k), 200 * (k + 1));
        }
        for (int what : new int[] {-1, 12, 19, 24, 29, 34, Integer.MAX_VALUE, Integer.MIN_VALUE}) due(43, "what " + what, x.count(what), NONE);
        x.text(2, 0, 0);
        due(43, "a new LAW counts alone", x.count(2), 100);
        due(43, "THE TAPE is read", x.count(0), 0);
    }

    /** All that has a bound is as full as it can be. */
    private static void fullest() {
        RodInThree x = with("cells 60;strong 1;", times(12, "bend 99 for 200;"), "die 0;");
        tell(x, 0, 1, "cells 60;strong 1;");
        tell(x, 0, 2, "cells 60;strong 999;stiff 99;");
        due(8, "TURN of 12 STEPS", x.bent(0, 3999, true), 0);
        due(8, "BEND of 12 STEPS", x.bent(0, 3999, false), 237600);
        due(43, "12 STEPS", x.count(30), 2400);
        due(27, "60 and 60", x.beside(0, 1, 0, 0), 120);
        due(26, "60 thinner", x.thinner(0, 0, 0, 50), 60);
        due(25, "60 longer", x.longer(0, 0, 0, 60), 60);
        due(34, "60 swapped", x.swapped(0, 0, 0), 60);
        due(23, "60 notched", x.notched(0, 0, 0, 59, 99), 60);
        due(24, "60 with none", x.notch(0, 0, 0, 0), NONE);
        due(18, "the 60th", x.ends(0, 0, 59, 1), 1);
        due(32, "58 of 60", x.middle(0, 0, 1, 1), 58);
        tell(x, 1, 1, times(12, "rest for 200;"));
        due(9, "12 STEPS, nothing breaks", x.go(2, 1, 0), 1);
        due(13, "all TICKS", x.run(4), 2400);
        due(9, "60", x.go(0, 0, 0), 60);
        x.row(0, 0, 60);
        due(39, "60 PIECES", x.keep(0, 0), 60);
        due(29, "60 PIECES", x.read(0, 0, 1, 0), 1);
        due(30, "the first of SHAPE 99", x.was(0, 0, 1, 27), 1);
        due(36, "the 60th flies", Math.min(1, x.flies(59)), 1);
        x.row(0, 1, 60);
        due(39, "60 TICKS", x.keep(0, 1), 60);
        due(33, "60 TICKS", x.filmed(0, 0, 0, 1, 0), 1);
        due(3, "400 bytes that end in a word", tell(x, 2, 0, times(397, " ") + "run"), -12);
        due(4, "their end", x.fault(1), 400);
        due(3, "400 bytes that end in a number", tell(x, 2, 0, times(395, "\n") + "run 1"), -12);
        due(4, "their end", x.fault(1), 400);
        due(3, "400 digits", tell(x, 2, 0, times(400, "1")), -11);
        due(3, "400 letters", tell(x, 2, 0, times(400, "a")), -12);
        due(3, "400 signs", tell(x, 3, 0, times(400, "(")), -12);
        due(3, "392 signs", tell(x, 3, 0, "seek if " + times(392, "(")), -15);
        String many = "seek if " + times(18, "late 0 and offs 0 or ") + "late 0;" + times(7, " ");
        due(3, "400 bytes of FACTS", tell(x, 3, 0, many), 1);
        due(31, "they are so", x.found(0, 0, 0, 1, 0), 1);
    }

    /** Of several codes that which the call tells first. */
    private static void firstCodes() {
        RodInThree x = inThree();
        due(3, "what and n", x.text(4, 0, 99), -2);
        due(3, "k and n", x.text(2, 1, -1), -2);
        due(8, "DOINGS and t", x.bent(4, -1, false), -2);
        due(15, "ROW and no RUN", x.film(-1), -2);
        due(15, "no RUN and MISSING", x.film(3), -5);
        due(17, "ROD and PIECES", x.odds(1, 0, 0, 0), -2);
        due(18, "cell and n", x.ends(0, 0, 5, 0), -2);
        due(19, "DOINGS and p", x.paced(0, 9, 0, 0), -2);
        due(20, "ROD and t", x.turned(9, 0, 0, -1), -2);
        due(22, "ROD and p", x.line(9, 0, 0, 0), -2);
        due(23, "cell and notch", x.notched(0, 0, 0, 5, 100), -2);
        due(25, "ROD and cells", x.longer(9, 0, 0, 0), -2);
        due(26, "DOINGS and part", x.thinner(0, 9, 0, 0), -2);
        due(27, "no such ROD twice", x.beside(3, 3, 0, 0), -2);
        due(27, "DOINGS and both are one", x.beside(0, 0, 9, 0), -2);
        due(28, "DOINGS and n", x.never(9, 0), -2);
        due(29, "what and n", x.read(0, 0, 0, 2), -2);
        due(29, "n and MISSING", x.read(0, 0, 0, 0), -3);
        due(30, "cell and n", x.was(0, 0, 0, 5), -2);
        due(30, "n and MISSING", x.was(0, 0, 0, 0), -3);
        due(31, "LOOK and n", x.found(0, 0, 0, 0, 0), -2);
        due(32, "what and n", x.middle(0, 0, 0, 4), -2);
        due(33, "what and n", x.filmed(0, 0, 0, 0, 2), -2);
        due(33, "n and MISSING", x.filmed(0, 0, 0, 0, 0), -3);
        due(37, "sort and n", x.row(0, 4, 61), -2);
        due(38, "MISSING and number", x.write(0, -1, 0), -6);
        due(39, "what and no RUN", x.keep(0, 2), -2);
        due(39, "no RUN and MISSING", x.keep(0, 1), -5);
        due(42, "by -2", x.status(2), 22);
        due(42, "by -3", x.status(3), 3);
        due(42, "by -5", x.status(5), 2);
        due(42, "by -6", x.status(6), 1);
    }
}
