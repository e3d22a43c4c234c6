/** The section on texts and the promises 26 to 30, as far as they name a boundary case. */
public final class TextEdgesTest extends Edges {
    public static void main(String[] args) {
        textOfAtMostEighty();
        movesWithSemicolonsBetween();
        oneDigitBehindPlusAndMinus();
        oneToFourDigitsBehindEquals();
        oneToThreeDigitsBehindH();
        zAlone();
        loadOutOfRange();
        hoursOutOfRange();
        zerosAhead();
        somethingElseBehindAMove();
        firstCharacterOfTheFirstMove();
        promise26Range();
        promise26OutOfRange();
        promise26Eighty();
        promise27EmptyAndFull();
        promise28None();
        promise28Empty();
        promise28AtTheEnd();
        promise29HasAFault();
        promise29NoMoves();
        promise29MostMoves();
        promise29UntilOneIsRefused();
        promise29RefusedMoveChangesNothing();
        promise29LeastAndGreatestMoves();
        promise29OneChange();
        promise30NoneWasRefused();
        promise30NoSuchWeight();
        promise30OnThePanOrNotThere();
        promise30GreaterThanThousand();
        promise30GreaterMass();
        promise30ZeroAtALoad();
        promise30LatestOfAll();
        promise30NotAltered();
        Check.finish();
    }

    private static Balance with(String text) {
        return after(b -> b.write(text));
    }

    private static void faultless(String... texts) {
        for (String text : texts) {
            due(with(text).fault(), MISSING);
        }
    }

    /** The text has its fault there, so that it can not be carried out. */
    private static void faulty(int position, String... texts) {
        for (String text : texts) {
            refused(position, b -> b.write(text), Balance::fault);
            refused(IMPOSSIBLE, b -> b.write(text), Balance::move);
        }
    }

    private static void textOfAtMostEighty() {
        says("Texts", "There is a text of at most 80 characters, initially empty.");
        Balance b = new Balance();
        due(b.count(10), 0);
        for (int length = 1; length <= 80; length++) {
            due(b.type('z'), length);
        }
        due(b.type('z'), LIMIT);
        due(b.count(10), 80);
    }

    private static void movesWithSemicolonsBetween() {
        says("Texts", "It is a sequence of moves with \";\" between two of them");
        faultless("z", "z;z", "+0;-0;=0;h1;z");
        faulty(0, ";", ";z", "z,z", "z z", "zz", "z:z", "z<z", "+0-0", "=0=0", "h1h1");
        faulty(2, "z;;", "z;;z", "z; z");
    }

    private static void oneDigitBehindPlusAndMinus() {
        says("Texts", "\"+\" or \"-\" and a digit (put on, take away the weight with this number)");
        faultless("+0", "+9", "-0", "-9");
        faulty(0, "+", "-", "+/", "+:", "-/", "-:", "+00", "-10", "+a", "++", "--", "*0", ",0", ".0", "0");
    }

    private static void oneToFourDigitsBehindEquals() {
        says("Texts", "\"=\" and 1 to 4 digits (set the load)");
        faultless("=0", "=9", "=00", "=99", "=000", "=999", "=0000", "=1000");
        faulty(0, "=", "=00000", "=00001", "=01000", "=/", "=:", "=1/", "=1:", "=+1", "=-1", "<0", ">0");
        faulty(2, "z;=", "z;=;z", "z;=00000");
    }

    private static void oneToThreeDigitsBehindH() {
        says("Texts", "\"h\" and 1 to 3 digits (hours, 1 to 200)");
        faultless("h1", "h9", "h01", "h99", "h001", "h200");
        faulty(0, "h", "h0001", "h0200", "h/", "h:", "h1/", "h1:", "h-1", "g1", "i1", "H1");
        faulty(2, "z;h", "z;h;z", "z;h0001");
    }

    private static void zAlone() {
        says("Texts", "or \"z\" (zero, as the method zero does)");
        faultless("z");
        faulty(0, "y", "{", "Z", "z0", "z ");
        Balance b = afterLoads(1000, 0);
        b.write("z");
        due(b.move(), 1);
        counts(b, 0, 0, 0, 0, 0, 0, 0);
    }

    private static void loadOutOfRange() {
        says("Texts", "The fault ... whose ... load are out of range");
        faultless("=0", "=1", "=999", "=1000");
        faulty(0, "=1001", "=1010", "=1100", "=2000", "=9999");
    }

    private static void hoursOutOfRange() {
        says("Texts", "The fault ... whose hours ... are out of range");
        faultless("h1", "h2", "h199", "h200");
        faulty(0, "h0", "h00", "h000", "h201", "h210", "h300", "h999");
    }

    private static void zerosAhead() {
        says("Texts", "(zeros may stand ahead)");
        Balance b = new Balance();
        b.write("=0100;h001");
        due(b.move(), 2);
        counts(b, 100, 1000, 2);
        b.write("=020;h02;=0003");
        due(b.move(), 3);
        counts(b, 3, 30, 2);
        b.write("=0000");
        due(b.move(), 1);
        due(b.count(0), 0);
        faultless("=0999", "=0001", "h010", "h099");
    }

    private static void somethingElseBehindAMove() {
        says("Texts", "followed by something else than \";\" and a further character (unless the text ends with it)");
        faultless("+0", "=0;z", "z;z");
        faulty(0, "+0;", "=5;", "h5;", "z;", "=1000;", "h200;", "+0 ", "=5 ", "h5 ", "=5h5");
        faulty(2, "z;z;", "z;+0;");
        faulty(3, "+0;;", "+0;;z");
        faulty(6, "=1000;=1000;");
    }

    private static void firstCharacterOfTheFirstMove() {
        says("Texts", "the position, from 0, of the first character of the first move that is not of this form");
        faulty(0, "x", "x;x", "=1001;x", "h0;=1001");
        faulty(2, "z;x;x", "z;=1001;h0");
        faulty(3, "+9;=1001;+", "-0;x");
        faulty(77, "=1;".repeat(25) + "z;+");
        faulty(78, "=1;".repeat(26) + "+a");
        faulty(79, "=1;".repeat(25) + "=10;+");
    }

    private static void promise26Range() {
        says("Promise 26", "`character`: 32 to 126 ... Returns the length of the text");
        Balance b = new Balance();
        due(b.type(32), 1);
        due(b.type(126), 2);
        due(b.count(10), 2);
        for (int character = 33; character <= 96; character++) {
            due(b.type(character), character - 30);
        }
        b = new Balance();
        for (int character = 96; character <= 126; character++) {
            due(b.type(character), character - 95);
        }
    }

    private static void promise26OutOfRange() {
        says("Promise 26", "INVALID_ARGUMENT if character is out of range");
        refusedOutside(32, 126, Balance::type);
        for (int character : new int[] {31, 127, '\n', 0, 65536 + 'z', 256 + 'z'}) {
            refused(INVALID, b -> b.write("=1;".repeat(26) + "=1"), b -> b.type(character));
        }
    }

    private static void promise26Eighty() {
        says("Promise 26", "LIMIT_REACHED if it has 80 characters");
        String full = "=1;".repeat(26) + "=1";
        for (int character : new int[] {32, ';', '1', 126}) {
            refused(LIMIT, b -> b.write(full), b -> b.type(character));
        }
        Balance b = with(full.substring(0, 79));
        due(b.type('1'), 80);
        due(b.type('1'), LIMIT);
        b.clearText();
        due(b.type('1'), 1);
    }

    private static void promise27EmptyAndFull() {
        says("Promise 27", "Empties the text. Returns the length it had.");
        Balance b = new Balance();
        due(b.clearText(), 0);
        b.type('x');
        due(b.clearText(), 1);
        due(b.count(10), 0);
        due(b.fault(), MISSING);
        due(b.clearText(), 0);
        b.write("x".repeat(79));
        due(b.clearText(), 79);
        b.write("x".repeat(80));
        due(b.clearText(), 80);
        due(b.count(10), 0);
        due(b.count(9), 0);
        b.write("=");
        due(b.fault(), 0);
    }

    private static void promise28None() {
        says("Promise 28", "Returns the fault of the text; NOT_FOUND if it has none");
        refused(MISSING, b -> b.write("+0;-9;=1000;h200;z"), Balance::fault);
        refused(MISSING, b -> b.write("=1;".repeat(26) + "=1"), Balance::fault);
        refused(MISSING, Edges::busy, Balance::fault);
    }

    private static void promise28Empty() {
        says("Promise 28", "(also if it is empty)");
        refused(MISSING, Edges::nothing, Balance::fault);
        refused(MISSING, b -> {
            b.write("x");
            b.clearText();
        }, Balance::fault);
    }

    private static void promise28AtTheEnd() {
        says("Promise 28", "Returns the fault of the text [behind each character that is typed]");
        Balance b = new Balance();
        String text = "z;=1000;h200;+9;-01";
        int[] dues = {MISSING, 0, 2, MISSING, MISSING, MISSING, MISSING, 2, 8, MISSING, MISSING, MISSING, 8, 13,
            MISSING, 13, 16, MISSING, 16};
        for (int i = 0; i < dues.length; i++) {
            b.type(text.charAt(i));
            due(b.fault(), dues[i]);
        }
    }

    private static void promise29HasAFault() {
        says("Promise 29", "NOT_POSSIBLE if the text has a fault");
        refused(IMPOSSIBLE, b -> {
            busy(b);
            b.write("=500;h1;z;+1;-");
        }, Balance::move);
        refused(IMPOSSIBLE, b -> {
            busy(b);
            b.write("+9;=1001");
        }, Balance::move);
        refused(IMPOSSIBLE, b -> b.write("=500;"), Balance::move);
        refused(IMPOSSIBLE, b -> b.write(" "), Balance::move);
    }

    private static void promise29NoMoves() {
        says("Promise 29", "Returns the number of moves that were carried out [none of them]");
        Balance b = new Balance();
        due(b.move(), 0);
        due(b.count(9), 1);
        due(b.why(), 0);
        b.write("+0;=5");
        due(b.move(), 0);
        due(b.count(9), 2);
        due(b.count(0), 0);
        due(b.undo(), 1);
        due(b.undo(), 0);
    }

    private static void promise29MostMoves() {
        says("Promise 29", "Carries out the moves of the text ... one after the other [as many as there can be]");
        Balance b = new Balance();
        b.write("z;".repeat(39) + "z");
        due(b.count(10), 79);
        due(b.move(), 40);
        b.write("z;".repeat(38) + "=9;z");
        due(b.count(10), 80);
        due(b.move(), 39);
        due(b.count(0), 9);
        b.write("=1;".repeat(26) + "=7");
        due(b.move(), 27);
        due(b.count(0), 7);
    }

    private static void promise29UntilOneIsRefused() {
        says("Promise 29", "until one is refused");
        Balance b = new Balance();
        b.addWeight(500, 0, 0, -1);
        b.write("+0;=499;=700");
        due(b.move(), 1);
        due(b.count(0), 500);
        b.write("-0;=600;+0;=1");
        due(b.move(), 2);
        due(b.count(0), 600);
        b.write("=5;h1;z;=9");
        due(b.move(), 2);
        due(b.count(0), 5);
        b.write("=5;-0");
        due(b.move(), 1);
        b.write("=5;=6");
        due(b.move(), 2);
        due(b.count(0), 6);
    }

    private static void promise29RefusedMoveChangesNothing() {
        says("Promise 29", "until one is refused [which changes nothing, and none behind it is carried out]");
        String[][] texts = {{"=700;h3;=300", ";+7;=9"}, {"=700;h3;=300", ";-3;=9"}, {"=700;=600", ";+1;=9"},
            {"+0;=700;h3", ";+0;=9"}, {"=700;=300", ";-0;=9"}, {"=900;=600", ";+0;=9"},
            {"=5;+0;=700;=600", ";=499;=900"}, {"=700;h200;=1", ";z;=9"}, {"=1000;=0;z;=1000;h9", ";z;=9"}};
        for (String[] text : texts) {
            Balance left = with(text[0]);
            left.addWeight(500, 0, 0, -1);
            due(left.move(), text[0].split(";").length);
            Balance b = with(text[0] + text[1]);
            b.addWeight(500, 0, 0, -1);
            due(b.move(), text[0].split(";").length);
            Check.same("behind " + text[0] + text[1], b.bench(), left.bench());
            due(b.undo(), 1);
            left.undo();
            Check.same("undone, " + text[0] + text[1], b.bench(), left.bench());
        }
    }

    private static void promise29LeastAndGreatestMoves() {
        says("Promise 29", "Carries out the moves of the text [the loads and hours at the ends of their ranges]");
        Balance b = new Balance();
        b.set(1, 100);
        b.set(2, 1);
        b.write("=1000;h200");
        due(b.move(), 2);
        counts(b, 1000, 10000, 200, 10195);
        b.write("h1;h199");
        due(b.move(), 2);
        counts(b, 1000, 10000, 400, 10395);
        b.write("=0;h1");
        due(b.move(), 2);
        counts(b, 0, 0, 399, 404);
        b.write("=1;=999");
        due(b.move(), 2);
        counts(b, 999, 9990, 399, 10384);
        b = after(c -> {
            for (int i = 0; i < 8; i++) {
                c.addWeight(1 << i, 0, 0, -1);
            }
        });
        b.write("+7;+0;-7");
        due(b.move(), 3);
        due(b.count(0), 1);
        due(b.weight(0, 4), 1);
        due(b.count(8), 1);
    }

    private static void promise29OneChange() {
        says("Promise 29", "They are one change.");
        Balance b = new Balance();
        b.setLoad(3);
        b.write("=4;=5;=6;=7;=8;=9;=10");
        due(b.move(), 7);
        due(b.count(9), 2);
        due(b.undo(), 1);
        due(b.count(0), 3);
        due(b.count(10), 21);
        due(b.move(), 7);
        due(b.count(0), 10);
    }

    private static void refuses(Balance b, String text, int moves, int why) {
        b.write(text);
        due(b.move(), moves);
        due(b.why(), why);
    }

    private static void promise30NoneWasRefused() {
        says("Promise 30", "Returns 0: none was refused");
        Balance b = new Balance();
        due(b.why(), 0);
        refuses(b, "", 0, 0);
        refuses(b, "=1000;=0;z;h200", 4, 0);
        b.put(0);
        b.take(-1);
        b.setLoad(1001);
        due(b.why(), 0);
    }

    private static void promise30NoSuchWeight() {
        says("Promise 30", "1: there is no such weight");
        refuses(new Balance(), "+0", 0, 1);
        refuses(new Balance(), "-0", 0, 1);
        Balance b = new Balance();
        for (int i = 0; i < 8; i++) {
            b.addWeight(1, 0, 0, -1);
        }
        refuses(b, "+7;-7", 2, 0);
        refuses(b, "z;+8", 1, 1);
        refuses(b, "=0;z;+8", 2, 1);
        refuses(b, "z;z;-0", 2, 2);
        refuses(b, "z;-8", 1, 1);
        refuses(b, "+0;-0;+9", 2, 1);
    }

    private static void promise30OnThePanOrNotThere() {
        says("Promise 30", "2: the weight is on the pan already, or not there");
        Balance b = new Balance();
        b.addWeight(500, 0, 0, -1);
        refuses(b, "-0", 0, 2);
        b = new Balance();
        b.addWeight(500, 0, 0, -1);
        refuses(b, "+0;-0;+0", 3, 0);
        refuses(b, "+0", 0, 2);
        refuses(b, "=500;=499", 1, 4);
        refuses(b, "-0;-0", 1, 2);
    }

    private static void promise30GreaterThanThousand() {
        says("Promise 30", "3: the load would be greater than 1000");
        Balance b = new Balance();
        b.addWeight(500, 0, 0, -1);
        b.addWeight(1, 0, 0, -1);
        refuses(b, "=500;+0;-0", 3, 0);
        refuses(b, "=501;+0", 1, 3);
        refuses(b, "=999;+1;-1", 3, 3);
        refuses(b, "z", 0, 5);
        refuses(b, "=1000;+1", 1, 3);
    }

    private static void promise30GreaterMass() {
        says("Promise 30", "4: the weights on the pan have a greater mass");
        Balance b = new Balance();
        b.addWeight(500, 0, 0, -1);
        b.addWeight(1, 0, 0, -1);
        refuses(b, "+0;+1;=501;=1000;=501", 5, 0);
        refuses(b, "=500", 0, 4);
        refuses(b, "z", 0, 5);
        refuses(b, "=0", 0, 4);
        refuses(b, "-1;=500", 2, 4);
        refuses(b, "=499", 0, 4);
    }

    private static void promise30ZeroAtALoad() {
        says("Promise 30", "5: zero, but the load is not 0");
        Balance b = new Balance();
        refuses(b, "z;=1;=0;z", 4, 0);
        refuses(b, "=1;z", 1, 5);
        b = afterLoads(1000);
        refuses(b, "z", 0, 5);
        refuses(b, "=0;z", 2, 5);
    }

    private static void promise30LatestOfAll() {
        says("Promise 30",
            "why the latest move that was refused, of all that texts told since the balance was created");
        Balance b = new Balance();
        b.addWeight(500, 0, 0, -1);
        refuses(b, "+1", 0, 1);
        refuses(b, "-0", 0, 2);
        refuses(b, "=501;+0", 1, 3);
        refuses(b, "=500;+0;=0", 2, 4);
        refuses(b, "z", 0, 5);
        refuses(b, "+1", 0, 1);
        refuses(b, "=1000;-0;=0;z;h1", 5, 1);
        for (int left = 4; left >= 0; left--) {
            due(b.undo(), left);
            due(b.why(), 1);
        }
    }

    private static void promise30NotAltered() {
        says("Promise 30", "(moves that are made later do not alter it; refused calls of other methods do not count)");
        Balance b = new Balance();
        b.addWeight(500, 0, 0, -1);
        refuses(b, "=501;+0;z", 1, 3);
        b.put(0);
        b.put(1);
        b.take(0);
        b.zero();
        b.setLoad(1001);
        due(b.why(), 3);
        b.setLoad(0);
        b.put(0);
        b.put(0);
        b.setLoad(0);
        due(b.why(), 3);
        b.clearText();
        due(b.why(), 3);
        refuses(b, "", 0, 3);
        refuses(b, "=500;=1000;-0;h3", 4, 3);
        b.write("+9;x");
        due(b.move(), IMPOSSIBLE);
        due(b.why(), 3);
    }
}
