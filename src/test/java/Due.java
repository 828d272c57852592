/** What tests by hand have in common: the count of wrong answers, and texts that are fed. */
abstract class Due {
    static final int NONE = -1;
    private static int wrong = 0;
    private static int asked = 0;

    static void due(int promise, String call, long got, long want) {
        asked++;
        if (got != want) {
            wrong++;
            System.out.println("promise " + promise + ": " + call + " answered " + got + ", due is " + want);
        }
    }

    static void end() {
        System.out.println(wrong == 0 ? "all of " + asked + " answers are as due" : wrong + " answers are not as due");
        if (wrong != 0) System.exit(1);
    }

    /** The bytes of a text, filled up with blanks to twenties. */
    static int feedText(RodInThree x, String text) {
        int fed = 0;
        for (int i = 0; i < text.length(); i += 20) {
            int[] v = new int[5];
            for (int j = 0; j < 20; j++) {
                int c = i + j < text.length() ? text.charAt(i + j) : ' ';
                v[j / 4] = v[j / 4] << 8 | c;
            }
            fed = x.feed(v[0], v[1], v[2], v[3], v[4]);
        }
        return fed;
    }

    static int tell(RodInThree x, int what, int k, String text) {
        feedText(x, text);
        return x.text(what, k, text.length());
    }

    static RodInThree with(String rod, String doings, String law) {
        RodInThree x = new RodInThree();
        boolean isTold = tell(x, 0, 0, rod) > 0 && tell(x, 1, 0, doings) >= 0 && tell(x, 2, 0, law) >= 0;
        if (!isTold) due(3, "texts of a test", -1, 0);
        return x;
    }

    static String times(int n, String text) {
        return text.repeat(n);
    }

    static void tellRow(RodInThree x, int row, int sort, long... numbers) {
        x.row(row, sort, numbers.length);
        for (int i = 0; i < numbers.length; i++) x.write(row, i, numbers[i]);
    }
}
