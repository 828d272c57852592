import java.util.List;

/** The edges that the document's terms name, in its order: on either side of each, worked out by hand. */
public final class EdgesTest extends Due {
    private static final String[] WORDS = {"cells", "stiff", "strong", "glass", "damp", "notch", "flaws", "at", "to", "bend", "back",
        "turn", "rest", "for", "bounce", "die", "run", "twist", "takes", "echo", "ring", "fingers", "seek", "if", "or", "and", "not",
        "flawed", "crushed", "pieces", "waved", "late", "offs", "first", "longest", "shortest", "behind"};

    public static void main(String[] args) {
        spans();
        laterLines();
        nothingIsLeft();
        everySign();
        tokensGoOn();
        tapeIsNotReadBeyond();
        wordsThatBegin();
        tokensInPlaceOfOthers();
        leastKind();
        draws();
        shapes();
        steps();
        lastTick();
        hits();
        echoes();
        offs();
        letGo();
        kinds();
        fourThousand();
        paced();
        grid();
        fewAndMany();
        looksOfBroken();
        looksOfTurnedOff();
        looksAsTold();
        cuts();
        rowsThatTell();
        emptyImage();
        end();
    }

    private static void fault(int what, String text, int kind, int place) {
        RodInThree x = new RodInThree();
        due(3, '"' + text + '"', tell(x, what, 0, text), -10 - kind);
        due(4, '"' + text + "\": FAULT", x.fault(0), kind);
        due(4, '"' + text + "\": place", x.fault(1), place);
    }

    private static void cell(RodInThree x, int i, int stiff, int strong, int notch, int stuff) {
        int[] want = {stiff, strong, notch, stuff};
        for (int what = 0; what < 4; what++) due(6, "cell(0, " + i + ", " + what + ")", x.cell(0, i, what), want[what]);
    }

    // ---- 1. texts

    private static void spans() {
        RodInThree x = new RodInThree();
        due(3, "LINES without a SPAN", tell(x, 0, 0, "cells 60;stiff 7;strong 8;notch 9;damp;flaws 3;"), 6);
        for (int i : new int[] {0, 1, 30, 58, 59}) cell(x, i, 7, 8, 9, 2);
        due(3, "LINES with SPANS", tell(x, 0, 0, "cells 60;stiff 7 at 59;strong 8 at 0 to 59;notch 9 at 0 at 59;glass at 58 to 59;damp at 59 to 59;"), 6);
        cell(x, 0, 10, 8, 9, 0);
        cell(x, 1, 10, 8, 0, 0);
        cell(x, 57, 10, 8, 0, 0);
        cell(x, 58, 10, 8, 0, 1);
        cell(x, 59, 7, 8, 9, 2);
        due(3, "SPANS over one another", tell(x, 0, 0, "cells 5;stiff 3 at 3 at 1 to 3 at 1 at 2 to 2;"), 2);
        int[] stiff = {10, 3, 3, 3, 10};
        for (int i = 0; i < 5; i++) due(6, "stiff of " + i, x.cell(0, i, 0), stiff[i]);
    }

    private static void laterLines() {
        RodInThree x = new RodInThree();
        tell(x, 0, 0, "cells 5;damp;glass at 1 to 3;damp at 2;stiff 99 at 2;stiff 1;strong 1;strong 999 at 4;notch 99;notch 0 at 1;flaws 99;flaws 0;");
        cell(x, 0, 1, 1, 99, 2);
        cell(x, 1, 1, 1, 0, 1);
        cell(x, 2, 1, 1, 99, 2);
        cell(x, 3, 1, 1, 99, 1);
        cell(x, 4, 1, 999, 99, 2);
        due(5, "flaws", x.rod(0, 1), 0);
        tell(x, 2, 0, "bounce 1;bounce 200;bounce 0;ring 5;ring 100;");
        due(43, "bounce", x.count(2), 0);
        due(43, "ring", x.count(8), 100);
        due(43, "LINES", x.count(10), 5);
    }

    /** A text counts alone: neither what was there nor a text with a FAULT leaves anything in it. */
    private static void nothingIsLeft() {
        RodInThree x = new RodInThree();
        tell(x, 0, 0, "cells 60;stiff 7;strong 8;notch 9;damp;flaws 3;");
        tell(x, 0, 1, "cells 60;stiff 7;strong 8;notch 9;glass;flaws 3;?");
        due(3, "a ROD by a FAULT isn't there", x.rod(1, 0), -2);
        tell(x, 0, 0, "cells 60;");
        cell(x, 0, 10, 100, 0, 0);
        cell(x, 59, 10, 100, 0, 0);
        due(5, "flaws", x.rod(0, 1), 0);
        tell(x, 2, 0, "bounce 9;fingers 9;?");
        due(43, "THE LAW stays", x.count(2), 100);
        tell(x, 2, 0, "die 9;");
        due(43, "bounce", x.count(2), 100);
        due(43, "fingers", x.count(9), 0);
        due(43, "LINES", x.count(10), 1);
        tell(x, 1, 0, "bend 9 for 9;turn 9 for 9;?");
        due(43, "no STEPS", x.count(20), 0);
        tell(x, 1, 0, "turn 1 for 1;");
        due(43, "one STEP", x.count(20), 1);
        due(8, "TURN", x.bent(0, 3999, true), 1);
        due(8, "BEND", x.bent(0, 3999, false), 0);
        tell(x, 3, 0, "seek if crushed;seek if pieces 1;?");
        due(43, "no LOOKS", x.count(11), 0);
        due(31, "no LOOK 0", x.found(0, 0, 0, 1, 0), -2);
        tell(x, 3, 0, "seek if pieces 1;");
        due(31, "LOOK 0", x.found(0, 0, 0, 1, 0), 1);
        due(31, "no LOOK 1", x.found(1, 0, 0, 1, 0), -2);
    }

    /** Each of the 256 bytes ahead of a sign. */
    private static void everySign() {
        for (int c = 0; c < 256; c++) {
            String text = "cells 4" + (char) c + ";";
            if (c == 10 || c == 32 || c >= '0' && c <= '9') {
                RodInThree x = new RodInThree();
                due(3, "byte " + c, tell(x, 0, 0, text), 1);
                due(5, "cells by byte " + c, x.rod(0, 0), c >= '0' ? 40 + c - '0' : 4);
            } else if (c == ';') {
                fault(0, text, 2, 8);
            } else {
                boolean isToken = c >= 'a' && c <= 'z' || c == '(' || c == ')';
                fault(0, text, isToken ? 2 : 1, 7);
            }
        }
    }

    private static void tokensGoOn() {
        RodInThree x = new RodInThree();
        due(3, "three digits", tell(x, 0, 0, "cells 009;flaws 000;stiff 099;strong 001;"), 4);
        due(5, "cells", x.rod(0, 0), 9);
        due(6, "stiff", x.cell(0, 8, 0), 99);
        due(6, "strong", x.cell(0, 8, 1), 1);
        due(3, "no blanks", tell(x, 1, 0, "bend1for002;rest for003;"), 2);
        due(43, "TICKS", x.count(30), 5);
        due(3, "blanks alone", tell(x, 1, 0, " \n \n"), 0);
        due(3, "blanks at both ends", tell(x, 2, 0, "\n run 3 ; \n"), 1);
        fault(0, "cells 0009;", 1, 6);
        fault(0, "cells 4;glassat 1;", 2, 8);
        fault(0, "cells 4;glass at 1to2 3;", 2, 22);
        fault(0, "cells 60 0;", 2, 9);
        fault(1, "bend 1 for 20 0;", 2, 14);
        fault(3, "seek ifflawed;", 2, 5);
        fault(3, "seek if notflawed;", 2, 8);
        fault(3, "seek if not(flawed)and(notlate 1);", 2, 23);
        fault(3, "seek if not(flawed)andlate 1;", 2, 19);
    }

    /** Of THE TAPE the first n bytes are read; what is behind them, or was there once, isn't. */
    private static void tapeIsNotReadBeyond() {
        RodInThree x = new RodInThree();
        String[] texts = {"cells 60;", "run 2;die 0;", "seek if flawed;"};
        int[] whats = {0, 2, 3};
        for (int k = 0; k < 3; k++) {
            for (int n = 1; n < texts[k].length(); n++) {
                feedText(x, texts[k]);
                boolean isWhole = texts[k].charAt(n - 1) == ';';
                int due = isWhole ? 1 : -12;
                due(3, texts[k] + " by " + n, x.text(whats[k], 0, n), due);
                due(43, "THE TAPE is empty", x.count(0), 0);
            }
        }
        feedText(x, times(40, "5"));
        due(3, "nothing of it", x.text(2, 0, 0), 0);
        feedText(x, times(12, " ") + "bounce 1");
        due(3, "a number at the end", x.text(2, 0, 20), -12);
        due(4, "its end", x.fault(1), 20);
        feedText(x, times(40, "s"));
        x.text(2, 0, 0);
        feedText(x, times(12, " ") + "run 1;ru");
        due(3, "a word at the end", x.text(2, 0, 20), -12);
        due(4, "its begin", x.fault(1), 18);
        due(3, "400 bytes that end in a part of a word", tell(x, 2, 0, times(398, " ") + "ru"), -12);
        due(4, "its begin", x.fault(1), 398);
        feedText(x, times(14, " ") + "run 1;");
        due(3, "a sign at the end", x.text(2, 0, 20), 1);
    }

    /** Which words and signs may stand behind what is told: all others, also words that are much like them, can't. */
    private static void wordsThatBegin() {
        next(0, "", "", "cells");
        next(0, "cells 4;", "", "stiff", "strong", "glass", "damp", "notch", "flaws");
        next(1, "", "", "bend", "back", "turn", "rest");
        next(1, "rest for 1;", "", "bend", "back", "turn", "rest");
        next(2, "", "", "bounce", "die", "run", "twist", "takes", "echo", "ring", "fingers");
        next(2, "run 1;", "", "bounce", "die", "run", "twist", "takes", "echo", "ring", "fingers");
        next(3, "", "", "seek");
        next(3, "seek if flawed;", "", "seek");
        next(3, "seek ", "", "if");
        for (String ahead : new String[] {"seek if ", "seek if not ", "seek if (", "seek if flawed or ", "seek if flawed and ", "seek if ((not "}) {
            next(3, ahead, "(", "not", "flawed", "crushed", "pieces", "waved", "late", "offs", "first", "longest", "shortest", "behind");
        }
        next(3, "seek if flawed ", ";", "or", "and");
        next(3, "seek if late 1 ", ";", "or", "and");
        next(3, "seek if (crushed ", ")", "or", "and");
        next(3, "seek if (crushed) ", ";", "or", "and");
        next(0, "cells 4;glass ", ";", "at");
        next(0, "cells 4;stiff 1 ", ";", "at");
        next(0, "cells 4;glass at 1 ", ";", "at", "to");
        next(0, "cells 4;glass at 1 to 2 ", ";", "at");
        next(0, "cells 4;flaws 2 ", ";");
        next(0, "cells 4 ", ";");
        next(1, "bend 1 ", "", "for");
        next(1, "rest ", "", "for");
        next(1, "rest for 1 ", ";");
        next(2, "run 1 ", ";");
        for (String ahead : new String[] {"cells 4;stiff ", "cells 4;flaws ", "cells 4;glass at ", "cells 4;glass at 1 to "}) next(0, ahead, "");
        next(0, "cells ", "");
        next(1, "bend ", "");
        next(1, "rest for ", "");
        next(2, "ring ", "");
        next(3, "seek if late ", "");
    }

    private static void next(int what, String ahead, String signs, String... those) {
        for (String w : WORDS) {
            String text = ahead + w;
            fault(what, text, 2, List.of(those).contains(w) ? text.length() : ahead.length());
            fault(what, text + "s", 2, ahead.length());
            fault(what, ahead + "s" + w, 2, ahead.length());
            fault(what, text.substring(0, text.length() - 1), 2, ahead.length());
        }
        for (String sign : new String[] {";", "(", ")"}) {
            if (!signs.contains(sign)) fault(what, ahead + sign, 2, ahead.length());
        }
    }

    /** In whole texts each TOKEN in its turn is another one, or none, or the text ends there. */
    private static void tokensInPlaceOfOthers() {
        String[] texts = {
            "cells 9 ; stiff 5 at 1 to 3 at 7 ; glass at 2 ; damp ; flaws 3 ;",
            "bend 1 for 2 ; back 3 for 4 ; turn 5 for 6 ; rest for 7 ;",
            "bounce 1 ; die 2 ; run 3 ;",
            "seek if not ( late 1 or flawed ) and pieces 3 ; seek if crushed ;"};
        for (int what = 0; what < 4; what++) {
            String[] tokens = texts[what].split(" ");
            int place = 0;
            for (int i = 0; i < tokens.length; i++) {
                for (String other : new String[] {"zzz", "cell"}) fault(what, instead(tokens, i, other), 2, place);
                for (String none : new String[] {"?", "1000", "0000", "Z"}) fault(what, instead(tokens, i, none), 1, place);
                if (Character.isDigit(tokens[i].charAt(0))) {
                    for (String other : new String[] {";", "(", ")", "for", "at"}) fault(what, instead(tokens, i, other), 2, place);
                } else {
                    fault(what, instead(tokens, i, "7"), 2, place);
                }
                boolean isBegin = i > 0 && tokens[i - 1].equals(";") || i == 0 && what > 0;
                if (!isBegin) fault(what, texts[what].substring(0, place), 2, place);
                place += tokens[i].length() + 1;
            }
        }
    }

    private static String instead(String[] tokens, int i, String other) {
        String[] all = tokens.clone();
        all[i] = other;
        return String.join(" ", all);
    }

    /** Of one TOKEN the least kind; of all the first along the text. */
    private static void leastKind() {
        fault(0, "1000", 1, 0);
        fault(2, times(24, "run 1;") + "1000", 1, 144);
        fault(2, times(24, "run 1;") + "zzz", 2, 144);
        fault(2, times(24, "run 1;") + "run 10;", 4, 144);
        fault(1, times(12, "rest for 1;") + "1000", 1, 132);
        fault(1, times(12, "rest for 1;") + "7", 2, 132);
        fault(1, times(12, "rest for 1;") + "bend 100 for 0;", 4, 132);
        fault(3, times(8, "seek if late 1;") + "?", 1, 120);
        fault(3, times(8, "seek if late 1;") + "not", 2, 120);
        fault(3, times(8, "seek if late 1;") + "seek seek", 4, 120);
        fault(0, "cells 4;flaws 1 999;", 2, 16);
        fault(1, "bend 1 for 1 999;", 2, 13);
        fault(3, "seek if flawed 999;", 2, 15);
        fault(3, "seek if ((((((((flawed (late 1", 2, 23);
        fault(3, "seek if ((((((((flawed not late 1", 2, 23);
        fault(3, "seek if ((((((((?", 1, 16);
        fault(3, "seek if ((((((((1000", 1, 16);
        fault(3, "seek if ((((((((;", 2, 16);
        fault(3, "seek if not not not not(((((late 1", 5, 27);
        fault(3, "seek if not not not not((((not late 1", 5, 27);
        fault(0, "cells 61;?", 3, 6);
        fault(0, "cells 4;zzz ?", 2, 8);
        fault(0, "cells 4;glass at 4;stiff 0;", 3, 17);
        fault(1, "bend 100 for 1000;", 3, 5);
        fault(2, "run 0;" + times(30, "run 1;"), 3, 4);
        fault(3, "seek if pieces 0 and " + times(9, "("), 3, 15);
        // What is closed isn't open around the next: 8 are, time and again.
        RodInThree x = new RodInThree();
        due(3, "8 and 8 and 8", tell(x, 3, 0, "seek if " + times(8, "(") + "late 1" + times(8, ")") + " or " + times(8, "not ") + "late 1 or "
            + times(4, "not(") + "late 1" + times(4, ")") + ";"), 1);
        due(3, "in the 8th LOOK, too", tell(x, 3, 0, times(7, "seek if late 1;") + "seek if " + times(8, "(") + "late 1" + times(8, ")") + ";"), 8);
    }

    // ---- 2. runs

    /** By 1103515245 x + 12345 as an int: DRAWS of seed 0 are 0, 54236, 42756, 54885, 3498, and so on. */
    private static void draws() {
        RodInThree x = new RodInThree();
        tell(x, 0, 0, "cells 5;strong 999;flaws 99;");
        int[] seeds = {0, Integer.MAX_VALUE, Integer.MIN_VALUE, -1};
        int[][] flaws = {{0, 36, 56, 85, 98}, {29, 77, 30, 18, 81}, {68, 68, 88, 17, 66}, {97, 9, 62, 86, 13}};
        for (int k = 0; k < 4; k++) {
            for (int i = 0; i < 5; i++) due(7, "seed " + seeds[k] + ", cell " + i, x.strength(0, i, seeds[k]), 999 - flaws[k][i]);
        }
        tell(x, 0, 0, "cells 60;strong 7 at 59;");
        due(7, "cell 59 of 60", x.strength(0, 59, 0), 7);
        due(7, "cell 60 of 60", x.strength(0, 60, 0), -2);
        int[] strong = {100, 99, 98, 1};
        int[] strength = {2, 1, 1, 1};
        for (int k = 0; k < 4; k++) {
            tell(x, 0, 0, "cells 5;strong " + strong[k] + ";flaws 99;");
            due(7, "1 at least, strong " + strong[k], x.strength(0, 4, 0), strength[k]);
        }
        tell(x, 0, 0, "cells 5;notch 99;strong 199;strong 200 at 1;strong 999 at 2;notch 1 at 3;");
        int[] cut = {1, 2, 9, 197, 1};
        for (int i = 0; i < 5; i++) due(7, "less notch, cell " + i, x.strength(0, i, 0), cut[i]);
        tell(x, 0, 0, "cells 5;flaws 1;");
        int[] little = {1, 1, 0, 0, 1};
        for (int i = 0; i < 5; i++) due(7, "modulo 2, cell " + i, x.strength(0, i, -1), 100 - little[i]);
    }

    private static void shapes() {
        RodInThree x = new RodInThree();
        int[][] shapes = {{75, 100, 75}, {64, 96, 96, 64}, {55, 88, 100, 88, 55}};
        for (int n = 3; n < 6; n++) {
            tell(x, 0, 0, "cells " + n + ";");
            for (int i = 0; i < n; i++) due(6, "SHAPE of " + i + " of " + n, x.cell(0, i, 4), shapes[n - 3][i]);
        }
        tell(x, 0, 0, "cells 59;");
        due(6, "SHAPE of 0 of 59", x.cell(0, 0, 4), 6);
        due(6, "SHAPE of 29 of 59", x.cell(0, 29, 4), 100);
        tell(x, 0, 0, "cells 60;");
        due(6, "SHAPE of 1 of 60", x.cell(0, 1, 4), 12);
        due(6, "SHAPE of 58 of 60", x.cell(0, 58, 4), 12);
        due(6, "SHAPE of 30 of 60", x.cell(0, 30, 4), 99);
    }

    private static void steps() {
        RodInThree x = new RodInThree();
        tell(x, 1, 0, "turn 3 for 2;bend 99 for 1;turn 5 for 2;back 98 for 1;back 1 for 1;back 1 for 1;bend 2 for 1;back 99 for 1;");
        int[] turn = {3, 6, 6, 11, 16, 16, 16, 16, 16, 16, 16};
        int[] bend = {0, 0, 99, 99, 99, 1, 0, 0, 2, 0, 0};
        for (int t = 0; t < turn.length; t++) {
            due(8, "TURN at " + t, x.bent(0, t, true), turn[t]);
            due(8, "BEND at " + t, x.bent(0, t, false), bend[t]);
        }
        tell(x, 1, 1, times(12, "turn 99 for 200;"));
        due(8, "TURN at 2398", x.bent(1, 2398, true), 237501);
        due(8, "TURN at 2399", x.bent(1, 2399, true), 237600);
        due(8, "behind the last STEP", x.bent(1, 2400, true), 237600);
        due(8, "at 3999", x.bent(1, 3999, true), 237600);
        tell(x, 1, 2, "bend 0 for 200;back 0 for 1;turn 0 for 1;");
        due(8, "by 0", x.bent(2, 3999, false), 0);
        due(43, "TICKS", x.count(32), 202);
    }

    private static final String THREE = "cells 5;strong 999;strong 100 at 2;strong 150 at 3;";

    /** Something breaks at TICK 10, the last one of its STEPS, or doesn't. */
    private static void lastTick() {
        RodInThree x = with(THREE, "bend 10 for 10;", "bounce 50;die 0;");
        due(9, "100 isn't above 100", x.go(0, 0, 0), 1);
        due(13, "TICKS", x.run(4), 10);
        due(13, "BEND", x.run(5), 100);
        tell(x, 1, 0, "bend 10 for 11;");
        due(9, "110 is", x.go(0, 0, 0), 3);
        due(10, "at the last TICK", x.broke(0, 1), 10);
        tell(x, 1, 0, "bend 10 for 11;turn 99 for 20;back 99 for 20;");
        due(9, "no STEP behind a BREAK", x.go(0, 0, 0), 3);
        due(13, "BEND stays", x.run(5), 110);
        due(13, "TURN stays", x.run(6), 0);
        due(13, "TICKS", x.run(4), 17);
        tell(x, 1, 0, "");
        due(9, "no STEPS", x.go(0, 0, 0), 1);
        due(13, "no TICKS", x.run(4), 0);
        tell(x, 1, 0, "rest for 1;");
        x.go(0, 0, 0);
        due(13, "one TICK", x.run(4), 1);
    }

    /** Cell 2 breaks by 101 at TICK 100, with WAVES of 1: what is left of 1 at a cell is 1 or 0. */
    private static void hits() {
        String[] stuffs = {"", "", "glass at 1;", "glass;", "damp at 3;", "damp at 3;"};
        String[] laws = {"die 0;", "die 1;", "die 99;", "die 99;", "die 0;ring 99;", "die 0;ring 100;"};
        int[][] came = {{2, 2}, {0, 0}, {1, 0}, {2, 2}, {2, 0}, {2, 2}};
        int[] ticks = {107, 103, 105, 107, 107, 107};
        for (int k = 0; k < 6; k++) {
            String of = stuffs[k] + laws[k];
            RodInThree x = with("cells 5;" + stuffs[k], "bend 1 for 200;", "bounce 1;" + laws[k]);
            due(9, of, x.go(0, 0, 0), 2);
            due(12, of + " AMOUNT", x.wave(0, 3), 1);
            due(12, of + " to the left", x.wave(0, 5), came[k][0]);
            due(12, of + " to the right", x.wave(1, 5), came[k][1]);
            due(13, of + " LET GO", x.run(7), came[k][0] + came[k][1]);
            due(13, of + " TICKS", x.run(4), ticks[k]);
        }
        RodInThree x = with("cells 5;", "bend 1 for 200;", "bounce 0;");
        x.go(0, 0, 0);
        due(12, "101 times 0", x.wave(0, 3), 0);
        tell(x, 2, 0, "bounce 200;");
        x.go(0, 0, 0);
        due(12, "101 times 2", x.wave(0, 3), 202);
    }

    /** From beyond an end: WAVES of 1, so that ECHOES have 1 or 0. */
    private static void echoes() {
        RodInThree x = with("cells 3;", "bend 1 for 200;", "bounce 1;die 0;echo 99;");
        due(9, "one BREAK", x.go(0, 0, 0), 2);
        due(12, "ECHOES of 0 are none", x.run(2), 2);
        due(13, "TICKS", x.run(4), 105);
        tell(x, 2, 0, "bounce 1;die 0;echo 100;");
        x.go(0, 0, 0);
        due(12, "ECHOES of 1", x.run(2), 4);
        int[][] waves = {{-1, 1, 104, 1, 1, 1}, {3, 0, 104, 1, 1, 1}};
        for (int i = 0; i < 2; i++) {
            for (int what = 0; what < 6; what++) due(12, "ECHO " + i + ", what " + what, x.wave(2 + i, what), waves[i][what]);
        }
        due(13, "they end at cell 1, which is broken", x.run(4), 109);
        tell(x, 2, 0, "bounce 2;die 0;echo 50;");
        x.go(0, 0, 0);
        due(12, "half of 2", x.wave(2, 3), 1);
        tell(x, 2, 0, "bounce 2;die 0;echo 49;");
        x.go(0, 0, 0);
        due(12, "less than half of 2", x.run(2), 2);
        tell(x, 2, 0, "bounce 1;die 1;echo 100;");
        x.go(0, 0, 0);
        due(12, "no ECHO of a WAVE that ended by itself", x.run(2), 2);
    }

    /** At cell 3 LOAD and HIT are 151: above its STRENGTH or not, with OFF 1 or 0. */
    private static void offs() {
        String[] laws = {"", "run 2;twist 2;", "run 2;twist 3;", "takes 49;", "takes 0;", "takes 100;"};
        int[] strong = {149, 150, 151};
        int[][] pieces = {{3, 2, 2}, {3, 2, 2}, {3, 3, 2}, {3, 3, 2}, {3, 3, 2}, {2, 2, 2}};
        int[][] offs = {{0, 1, 0}, {0, 1, 0}, {0, 0, 0}, {0, 0, 0}, {0, 0, 0}, {1, 1, 0}};
        for (int k = 0; k < 6; k++) {
            for (int i = 0; i < 3; i++) {
                String of = "strong " + strong[i] + ", " + laws[k];
                RodInThree x = with("cells 5;strong 999;strong 100 at 2;strong " + strong[i] + " at 3;", "turn 2 for 1;bend 10 for 20;", "bounce 50;die 0;" + laws[k]);
                due(9, of, x.go(0, 0, 0), pieces[k][i]);
                due(13, of + ": TURNED OFF", x.run(3), offs[k][i]);
                due(13, of + ": LET GO", x.run(7), pieces[k][i] == 3 ? 3 : 4);
            }
        }
    }

    /** A cell that was LET GO has no LOAD as a WAVE comes to it anew. */
    private static void letGo() {
        RodInThree x = with("cells 5;strong 999;strong 90 at 1;strong 160 at 2;strong 143 at 3;", "bend 10 for 20;", "bounce 50;die 0;");
        due(9, "cell 2 by 158, then by 72 alone", x.go(0, 0, 0), 3);
        int[] run = {2, 3, 4, 0, 19, 110, 0, 3};
        for (int what = 0; what < 8; what++) due(13, "cell 2 holds, run(" + what + ")", x.run(what), run[what]);
        tell(x, 0, 0, "cells 5;strong 999;strong 90 at 1;strong 303 at 2;strong 143 at 3;");
        tell(x, 2, 0, "bounce 200;die 0;");
        due(9, "cell 2 by 302, then by 576", x.go(0, 0, 0), 4);
        int[] then = {3, 4, 6, 0, 19, 110, 0, 3};
        for (int what = 0; what < 8; what++) due(13, "cell 2 breaks, run(" + what + ")", x.run(what), then[what]);
        due(10, "by its HIT alone", x.broke(2, 3), 576);
    }

    private static void kinds() {
        RodInThree x = with("cells 3;strong 1;notch 99;", "bend 99 for 1;", "bounce 0;");
        x.go(0, 0, 0);
        due(10, "STRENGTH 1 isn't less than strong 1", x.broke(0, 2), 0);
        tell(x, 0, 0, "cells 3;flaws 1;");
        tell(x, 1, 0, "bend 1 for 200;");
        x.go(0, 0, 1);
        due(10, "a flaw of 0", x.broke(0, 2), 0);
        due(10, "by 101", x.broke(0, 3), 101);
        x.go(0, 0, -1);
        due(10, "a flaw of 1", x.broke(0, 2), 4);
        due(10, "by 100", x.broke(0, 3), 100);
        tell(x, 0, 0, "cells 4;notch 1;strong 999 at 0 to 1;");
        x.go(0, 0, 0);
        due(10, "cell 2 of 4", x.broke(0, 0), 2);
        due(10, "is flawed", x.broke(0, 2), 4);
        tell(x, 0, 0, "cells 4;notch 1;strong 999 at 0 to 2;");
        x.go(0, 0, 0);
        due(10, "cell 3 of 4", x.broke(0, 0), 3);
        due(10, "is crushed", x.broke(0, 2), 3);
        due(11, "all of it", x.piece(0), 4);
        tell(x, 0, 0, "cells 4;notch 1;strong 999 at 1 to 3;");
        x.go(0, 0, 0);
        due(10, "cell 0 of 4", x.broke(0, 0), 0);
        due(10, "is crushed", x.broke(0, 2), 3);
        due(11, "behind it", x.piece(1), 3);
        tell(x, 2, 0, "die 0;");
        tell(x, 0, 0, "cells 3;notch 50;");
        x.go(0, 0, 0);
        due(10, "a WAVE's BREAK of an end that is flawed", x.broke(1, 2), 1);
    }

    /** The last TICK is 3999: the WAVE of cell 58 comes to cell 43 (135 TICKS behind) in it, or would at 4000. */
    private static void fourThousand() {
        String rod = "cells 60;glass;stiff 99;stiff 1 at 0;strong 999;strong N at 0;strong 100 at 59;strong 200 at 1;strong 400 at 58;strong 900 at 43;";
        RodInThree x = with(rod.replace("N", "58"), times(11, "rest for 200;") + "bend 1 for 200;", "bounce 200;run 9;");
        due(9, "in TICK 3999", x.go(0, 0, 0), 5);
        int[][] breaks = {{0, 2298, 59}, {59, 2829, 118}, {1, 3351, 236}, {58, 3864, 472}, {43, 3999, 944}};
        for (int i = 0; i < 5; i++) {
            due(10, "cell of BREAK " + i, x.broke(i, 0), breaks[i][0]);
            due(10, "TICK of BREAK " + i, x.broke(i, 1), breaks[i][1]);
            due(10, "what broke it " + i, x.broke(i, 3), breaks[i][2]);
        }
        due(13, "4000 TICKS", x.run(4), 4000);
        due(12, "they began", x.run(2), 10);
        tell(x, 0, 0, rod.replace("N", "59"));
        due(9, "not in TICK 4000", x.go(0, 0, 0), 4);
        due(10, "by 480 at TICK 3865", x.broke(3, 1), 3865);
        due(13, "4000 TICKS", x.run(4), 4000);
    }

    // ---- 3. what is asked by runs

    /** Cell 3 has 144 by half the bend: OFF 1 is enough for 143. */
    private static void paced() {
        RodInThree x = with("cells 5;strong 999;strong 100 at 2;strong 143 at 3;", "turn 3 for 1;bend 10 for 20;", "bounce 50;die 0;");
        due(19, "turn 1 for 2", x.paced(0, 0, 0, 2), 2);
        tell(x, 1, 0, "turn 1 for 1;bend 10 for 20;");
        due(19, "turn 0 for 2", x.paced(0, 0, 0, 2), 3);
        tell(x, 1, 0, "turn 2 for 1;turn 1 for 2;bend 10 for 20;");
        due(19, "turn 1 for 2, then 0 for 4", x.paced(0, 0, 0, 2), 2);
        tell(x, 1, 0, "bend 99 for 200;back 99 for 200;turn 17 for 200;bend 18 for 6;");
        tell(x, 0, 1, "cells 3;strong 999;");
        due(19, "as soon as bent", x.paced(1, 0, 0, 9), 3);
        tell(x, 0, 1, "cells 3;strong 107;");
        tell(x, 1, 0, "bend 18 for 6;");
        due(19, "2 for 54 is 108", x.paced(1, 0, 0, 9), 3);
        tell(x, 0, 1, "cells 3;strong 108;");
        due(19, "108 isn't above 108", x.paced(1, 0, 0, 9), 1);
        // BEND is 1 at TICK 3600, as 400 TICKS of rest are over nine times, and t - 3599 at TICK t.
        tell(x, 1, 0, "rest for 200;rest for 200;bend 9 for 200;");
        int[] pieces = {2, 2, 1, 1, 1, 1, 1};
        for (int strong = 398; strong <= 404; strong++) {
            tell(x, 0, 1, "cells 3;strong " + strong + ";");
            tell(x, 2, 0, "bounce 0;");
            due(19, "BEND " + (strong + 1) + " at TICK " + (strong + 3600), x.paced(1, 0, 0, 9), pieces[strong - 398]);
        }
        tell(x, 1, 0, "bend 8 for 200;");
        due(19, "8 by 9 is 0", x.paced(1, 0, 0, 9), 1);
        due(22, "and no turn makes two of it", x.line(1, 0, 0, 9), NONE);
    }

    /**
     * Cells 1 and 3 have 1366 at p 1 (BEND 99: 871 and 495), 676 at p 2 (49: 431 and 245), 455 at p 3 (33: 290 and
     * 165), 331 at p 4, and less.
     */
    private static void grid() {
        RodInThree x = with("cells 5;strong 416;strong 1 at 2;stiff 1;", "bend 99 for 1;", "bounce 50;die 0;takes 100;");
        due(35, "t 950; 300 to 950; 50 to 950; all", x.grid(0, 0, 0), 1 + 14 + 19 + 120);
        tell(x, 0, 0, "cells 5;strong 415;strong 1 at 2;stiff 1;");
        due(35, "951 would do at p 1", x.grid(0, 0, 0), 14 + 19 + 120);
        due(21, "it does", x.least(0, 0, 0), 951);
        due(22, "p 2", x.line(0, 0, 0, 2), 261);
        due(22, "p 3", x.line(0, 0, 0, 3), 40);
        due(22, "p 4", x.line(0, 0, 0, 4), 0);
        tell(x, 0, 0, "cells 5;strong 405;strong 1 at 2;stiff 1;");
        due(35, "50 at p 3 is just enough", x.grid(0, 0, 0), 14 + 19 + 120);
        tell(x, 0, 0, "cells 5;strong 404;strong 1 at 2;stiff 1;");
        due(35, "51 at p 3 would be", x.grid(0, 0, 0), 14 + 18 + 120);
    }

    /** RODS in 4, 5 and 9 PIECES, in 3, 2 and 1. */
    private static void fewAndMany() {
        RodInThree x = with("cells 5;strong 999;strong 100 at 2;strong 150 at 1 at 3;", "bend 10 for 20;", "bounce 50;die 0;");
        tell(x, 0, 1, "cells 5;strong 100;");
        tell(x, 0, 2, THREE);
        tell(x, 0, 3, "cells 5;strong 999;strong 100 at 2;");
        int[] pieces = {4, 5, 3, 2};
        int[][] odds = {{0, 0, 0, 3}, {0, 0, 0, 3}, {0, 0, 3, 0}, {0, 3, 0, 0}};
        for (int k = 0; k < 4; k++) {
            due(9, "ROD " + k, x.go(k, 0, 0), pieces[k]);
            for (int p = 1; p < 5; p++) due(17, "ROD " + k + " in " + p, x.odds(k, 0, p, 3), odds[k][p - 1]);
        }
        due(28, "two alone never", x.never(0, 2), 8);
        // Flaws of cells 1 and 2 are 36 and 56 by seed 0: 130 is above 119; 26 and 13 by seed 1: 150 isn't above 162.
        RodInThree y = with("cells 4;strong 999;strong 100 at 1;strong 175 at 2;flaws 99;", "bend 1 for 200;", "die 0;");
        due(9, "three by seed 0", y.go(0, 0, 0), 3);
        due(9, "two by seed 1", y.go(0, 0, 1), 2);
        due(28, "seeds begin with 1", y.never(0, 1), 1);
        due(17, "seeds begin with 1", y.odds(0, 0, 3, 1), 0);
        due(18, "seeds begin with 1", y.ends(0, 0, 2, 1), 0);
        due(32, "seeds begin with 1", y.middle(0, 0, 1, 0), 0);
        int[] middle = {2, 4, 1, 1};
        for (int what = 0; what < 4; what++) due(32, "of 2, 1, 1, 1, what " + what, x.middle(0, 0, 2, what), middle[what]);
        int[] none = {0, 0, NONE, NONE};
        for (int what = 0; what < 4; what++) due(32, "of two, what " + what, x.middle(3, 0, 2, what), none[what]);
        tell(x, 2, 0, "bounce 50;die 0;run 5;twist 5;");
        x.go(0, 0, 0);
        due(14, "run less twist is 0", x.why(), 0);
        tell(x, 2, 0, "bounce 50;die 0;run 9;twist 1;");
        x.go(0, 0, 0);
        due(14, "to the left, too", x.why(), 8);
    }

    private static void look(RodInThree x, String test, boolean isSo) {
        due(3, "a LOOK " + test, tell(x, 3, 0, "seek if " + test + ";"), 1);
        due(31, test, x.found(0, 0, 0, 1, 0), isSo ? 1 : 0);
        due(31, test + ": the first", x.found(0, 0, 0, 1, 1), isSo ? 1 : NONE);
        tell(x, 3, 0, "seek if not " + test + ";");
        due(31, "not " + test, x.found(0, 0, 0, 1, 0), isSo ? 0 : 1);
    }

    /** 2, 1, 1, 1: cell 2 at TICK 10, then cells 1 and 3 by WAVES. */
    private static void looksOfBroken() {
        RodInThree x = with("cells 5;strong 999;strong 100 at 2;strong 150 at 1 at 3;", "bend 10 for 20;", "bounce 50;die 0;");
        String[] so = {"pieces 1", "pieces 3", "pieces 4", "waved 0", "waved 1", "waved 2", "late 0", "offs 0", "first 2", "longest 1", "longest 2",
            "shortest 1", "shortest 2", "shortest 60", "behind 0", "behind 9", "behind 10"};
        String[] not = {"pieces 5", "pieces 61", "waved 3", "waved 99", "late 1", "late 99", "offs 1", "first 1", "first 3", "first 59", "longest 3",
            "longest 60", "behind 11", "behind 999", "flawed", "crushed"};
        for (String test : so) look(x, test, true);
        for (String test : not) look(x, test, false);
    }

    /** 3, 2: cell 2 at TICK 11; cells 1 and 3 are TURNED OFF. */
    private static void looksOfTurnedOff() {
        RodInThree x = with("cells 5;strong 999;strong 100 at 2;strong 150 at 1 at 3;", "turn 2 for 1;bend 10 for 20;", "bounce 50;die 0;");
        String[] so = {"pieces 2", "offs 0", "offs 1", "offs 2", "longest 3", "longest 2", "shortest 2", "shortest 3", "behind 11"};
        String[] not = {"pieces 3", "offs 3", "offs 99", "waved 1", "longest 4", "shortest 1", "behind 12"};
        for (String test : so) look(x, test, true);
        for (String test : not) look(x, test, false);
        tell(x, 1, 0, "");
        for (String test : new String[] {"pieces 1", "longest 5", "shortest 5", "waved 0", "late 0", "offs 0"}) look(x, test, true);
        for (String test : new String[] {"first 0", "behind 0", "flawed", "crushed", "pieces 2", "shortest 4", "longest 6"}) look(x, test, false);
    }

    /** LOOKS are numbered as told. */
    private static void looksAsTold() {
        RodInThree x = with("cells 5;strong 999;strong 100 at 2;strong 150 at 1 at 3;", "bend 10 for 20;", "bounce 50;die 0;");
        StringBuilder all = new StringBuilder();
        for (int k = 1; k <= 8; k++) all.append("seek if pieces ").append(k).append(';');
        due(3, "8 LOOKS", tell(x, 3, 0, all.toString()), 8);
        for (int k = 0; k < 8; k++) due(31, "LOOK " + k, x.found(k, 0, 0, 2, 0), k < 4 ? 2 : 0);
        due(31, "LOOK 8", x.found(8, 0, 0, 2, 0), -2);
    }

    // ---- 4. rows, images

    private static void cuts() {
        long[][][] cut = {
            {{127, 127}, {128, -128}, {255, -1}, {256, 0}, {-128, -128}, {-129, 127}, {Long.MAX_VALUE, -1}, {Long.MIN_VALUE, 0}},
            {{32767, 32767}, {32768, -32768}, {65535, -1}, {65536, 0}, {-32768, -32768}, {-32769, 32767}, {Long.MAX_VALUE, -1}, {Long.MIN_VALUE, 0}},
            {{2147483647L, 2147483647L}, {2147483648L, -2147483648L}, {4294967295L, -1}, {4294967296L, 0}, {-2147483648L, -2147483648L},
                {-2147483649L, 2147483647L}, {Long.MAX_VALUE, -1}, {Long.MIN_VALUE, 0}},
            {{Long.MAX_VALUE, Long.MAX_VALUE}, {Long.MIN_VALUE, Long.MIN_VALUE}, {-1, -1}, {4294967296L, 4294967296L}}};
        RodInThree x = new RodInThree();
        for (int sort = 0; sort < 4; sort++) {
            x.row(0, sort, 1);
            for (long[] c : cut[sort]) due(38, c[0] + " by sort " + sort, x.write(0, 0, c[0]), c[1]);
            due(38, "number 1 of 1", x.write(0, 1, 0), -7);
        }
        due(37, "60 numbers", x.row(0, 0, 60), 0);
        due(38, "number 59", x.write(0, 59, 1), 1);
        due(38, "number 60", x.write(0, 60, 1), -7);
        due(37, "1 number", x.row(0, 0, 1), 0);
        due(38, "number 59 is gone", x.write(0, 59, 1), -7);
    }

    /** PIECES 3, 1, 1 at TICKS 10, 12: what a ROW tells ends at its first 0, its first number below 0, or its end. */
    private static void rowsThatTell() {
        RodInThree x = with(THREE, "bend 10 for 20;", "bounce 50;die 0;");
        x.go(0, 0, 0);
        long[][] pieces = {{3, 1, 1}, {3, 1, 1, 0}, {3, 1, 1, 0, 9}, {3, 1}, {3, 1, 0, 1}, {3, 1, 1, 1}, {3, 1, 1, -1}, {1, 1, 3}, {0, 3, 1, 1}, {}, {0},
            {3 + (1L << 32), 1, 1}, {3, 1, 1 + (1L << 8)}};
        for (int k = 0; k < pieces.length; k++) {
            tellRow(x, 0, 3, pieces[k]);
            due(29, "PIECES, ROW " + k, x.read(0, 0, 2, 0), k < 3 ? 2 : 0);
            due(29, "likely, ROW " + k, x.read(0, 0, 2, 1), k < 3 ? 0 : NONE);
            due(30, "was at 2, ROW " + k, x.was(0, 0, 2, 2), k < 3 ? 2 : 0);
            due(30, "was at 3, ROW " + k, x.was(0, 0, 2, 3), 0);
        }
        long[][] ticks = {{10, 12}, {10, 12, -1}, {10, 12, Long.MIN_VALUE, 14}, {10}, {10, -1, 12}, {10, 12, 0}, {10, 12, 12}, {-1, 10, 12}, {}, {12, 10},
            {10 + (1L << 32), 12}, {10, 12 + (1L << 8)}};
        for (int k = 0; k < ticks.length; k++) {
            tellRow(x, 0, 3, ticks[k]);
            due(15, "TICKS, ROW " + k, x.film(0), k < 3 ? 1 : 0);
            due(33, "filmed, ROW " + k, x.filmed(0, 0, 0, 2, 0), k < 3 ? 2 : 0);
            due(33, "filmed first, ROW " + k, x.filmed(0, 0, 0, 2, 1), k < 3 ? 1 : NONE);
        }
        for (int n = 0; n < 5; n++) {
            x.row(0, 0, n);
            due(39, "PIECES into " + n, x.keep(0, 0), Math.min(n, 3));
            due(29, "they are there", x.read(0, 0, 1, 0), n < 3 ? 0 : 1);
            x.row(0, 0, n);
            for (int i = 0; i < n; i++) x.write(0, i, -1);
            due(39, "TICKS into " + n, x.keep(0, 1), Math.min(n, 2));
            due(15, "they are there", x.film(0), n < 2 ? 0 : 1);
        }
    }

    /** An IMAGE of a new object has nothing in it, and takes all away but THE TAPE, the FAULT and ROWS. */
    private static void emptyImage() {
        RodInThree x = new RodInThree();
        x.image(0);
        for (int k = 0; k < 4; k++) tell(x, 0, k, THREE);
        for (int k = 0; k < 4; k++) tell(x, 1, k, "bend 10 for 20;");
        tell(x, 2, 0, "bounce 50;die 0;");
        tell(x, 3, 0, "seek if pieces 3;");
        x.go(0, 0, 0);
        tellRow(x, 1, 0, 10, 12);
        tell(x, 2, 0, "run 10;");
        x.image(1);
        feedText(x, "die 7;");
        due(41, "restore", x.restore(0), 0);
        due(43, "no RODS", x.count(1), 0);
        for (int k = 0; k < 4; k++) {
            due(43, "no STEPS", x.count(20 + k), 0);
            due(5, "no ROD", x.rod(k, 0), -2);
        }
        int[] law = {100, 5, 2, 1, 50, 0, 20, 0, 0, 0};
        for (int i = 0; i < 10; i++) due(43, "count(" + (2 + i) + ")", x.count(2 + i), law[i]);
        due(13, "no KEPT RUN", x.run(0), -5);
        due(15, "a ROW stays", x.film(1), -5);
        due(38, "as it is", x.write(1, 2, 0), -7);
        due(43, "THE TAPE stays", x.count(0), 20);
        due(4, "the FAULT stays", x.fault(0), 3);
        due(4, "its place, too", x.fault(1), 4);
        due(42, "so does what was refused", x.status(2), 4);
        due(42, "by a FAULT, too", x.status(1), 1);
        due(3, "THE TAPE is read", x.text(2, 0, 20), 1);
        due(41, "the other IMAGE", x.restore(1), 0);
        due(43, "all RODS", x.count(1), 4);
        due(43, "die", x.count(3), 0);
        due(15, "the KEPT RUN holds the ROW", x.film(1), 1);
        due(31, "the LOOK", x.found(0, 3, 3, 1, 0), 1);
        due(4, "no FAULT since", x.fault(0), 0);
        due(41, "time and again", x.restore(0), 0);
        due(43, "nothing", x.count(1), 0);
        due(40, "of nothing", x.image(1), 0);
        due(41, "in place of the other", x.restore(1), 0);
        due(43, "nothing", x.count(1), 0);
    }
}
