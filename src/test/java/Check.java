/** Compares answers with what is due and ends a test with exit code 1 if one was wrong. */
final class Check {
    private static int compared = 0;
    private static int wrong = 0;
    private static String sentence = "";
    private static int comparedBefore = -1;

    private Check() {
    }

    static void due(String call, long got, long want) {
        compared++;
        if (got != want) {
            fail(call + " answered " + got + ", due is " + want);
        }
    }

    static void same(String what, String got, String want) {
        compared++;
        if (!got.equals(want)) {
            fail(what + ":\n  found  " + got + "\n  due is " + want);
        }
    }

    private static void fail(String words) {
        wrong++;
        if (wrong <= 50) {
            System.out.println(sentence + words);
        }
    }

    /** What is compared from here on holds these words of the document. */
    static void says(String section, String words) {
        closeSentence();
        sentence = "[" + section + ": " + words + "] ";
        comparedBefore = compared;
    }

    private static void closeSentence() {
        if (comparedBefore == compared) {
            fail("nothing was compared");
        }
    }

    /** All numbers of count from 0 on that are named, in their order. */
    static void counts(String when, SpringBalance balance, int... wants) {
        for (int what = 0; what < wants.length; what++) {
            due(when + " count(" + what + ")", balance.count(what), wants[what]);
        }
    }

    static void write(SpringBalance balance, String text) {
        balance.clearText();
        for (int i = 0; i < text.length(); i++) {
            due("type in " + text, balance.type(text.charAt(i)), i + 1);
        }
    }

    static int wrong() {
        return wrong;
    }

    static void finish() {
        closeSentence();
        System.out.println(compared + " answers compared, " + wrong + " wrong");
        if (wrong != 0 || compared == 0) {
            System.exit(1);
        }
    }
}
