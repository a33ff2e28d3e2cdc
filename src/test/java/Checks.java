/** What every test of the project uses: counts and prints the answers that are not due. */
final class Checks {
    private static int wrong = 0;
    private static String part = "";

    private Checks() {
    }

    static void part(String name) {
        part = name;
    }

    static void due(String call, long got, long want) {
        if (got != want) {
            wrong++;
            System.out.println(part + ": " + call + " answered " + got + ", due is " + want);
        }
    }

    static void due(boolean so, String what) {
        if (!so) {
            wrong++;
            System.out.println(part + ": " + what);
        }
    }

    /** Several answers at once. */
    static void row(String calls, int[] got, int... want) {
        due(java.util.Arrays.equals(got, want), calls + " answered "
            + java.util.Arrays.toString(got) + ", due is " + java.util.Arrays.toString(want));
    }

    static void feed(BellRope x, String text) {
        for (int i = 0; i < text.length(); i++) {
            x.feed(text.charAt(i));
        }
    }

    static int tell(BellRope x, String text) {
        feed(x, text);
        return x.inn();
    }

    /** A new object with an INN. */
    static BellRope open(String text) {
        BellRope x = new BellRope();
        int answer = tell(x, text);
        due(answer >= 0, "\"" + text + "\" was refused with " + answer + " at " + x.fault());
        return x;
    }

    /** These DRINKERS come. */
    static BellRope open(String text, int... drinkers) {
        BellRope x = open(text);
        for (int d : drinkers) {
            due(x.come(d) >= 0, "come(" + d + ") was refused");
        }
        return x;
    }

    /** HEARD, quarter by quarter. */
    static int[] heard(BellRope x, int n) {
        int[] row = new int[n];
        for (int i = 0; i < n; i++) {
            row[i] = x.quarter(1);
        }
        return row;
    }

    static int wrong() {
        return wrong;
    }

    static void end() {
        System.out.println(wrong == 0 ? "all answers are as due" : wrong + " answers are not as due");
        if (wrong != 0) {
            System.exit(1);
        }
    }
}
