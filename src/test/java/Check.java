/** Compares answers with what is due and ends a test with exit code 1 if one was wrong. */
final class Check {
    private static int compared = 0;
    private static int wrong = 0;

    private Check() {
    }

    static void due(String call, long got, long want) {
        compared++;
        if (got != want) {
            wrong++;
            if (wrong <= 50) {
                System.out.println(call + " answered " + got + ", due is " + want);
            }
        }
    }

    /** All numbers of count from 0 on that are named, in their order. */
    static void counts(String when, SpringBalance balance, int... wants) {
        for (int what = 0; what < wants.length; what++) {
            due(when + " count(" + what + ")", balance.count(what), wants[what]);
        }
    }

    static void write(SpringBalance balance, String text) {
        balance.clearText();
        for (int i = 0; i < text.length(); i++) {
            due("type in " + text, balance.type(text.charAt(i)), i + 1);
        }
    }

    static int wrong() {
        return wrong;
    }

    static void finish() {
        System.out.println(compared + " answers compared, " + wrong + " wrong");
        if (wrong != 0 || compared == 0) {
            System.exit(1);
        }
    }
}
