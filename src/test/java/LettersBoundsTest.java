import java.util.function.Supplier;
import java.util.function.ToLongFunction;

/** The bounds that the document names for the letter, its brown copies and its clerks. */
public final class LettersBoundsTest {
    private static final int BAD = -1, STATE = -2, FULL = -3, NONE = -9, LOST = 10, NOT_ONE = -5;
    private static final int LEAST = Integer.MIN_VALUE, GREATEST = Integer.MAX_VALUE;
    private static final Due due = new Due();

    public static void main(String[] args) {
        writes0To9();
        writesUpTo5();
        tearsWhatThereIs();
        smokesWithoutSuchThing();
        smokesNothingAndAll();
        mercyAndFire();
        lostStaysSo();
        wordAtAPlace();
        brownWithoutSuchThing();
        brownOfAnEmptyLetter();
        brownOnesAreAsLong();
        fourBrownAtMost();
        brownIsAsItIsNow();
        burnTellsHowManyThereWere();
        stoodAtAPlace();
        stoodOfAllOrNone();
        stoodByEachCopy();
        lettersOfNothingBrown();
        lettersAtAPlace();
        lettersFrom0To100000();
        sureOrNot();
        whoseOfNoLetter();
        whoseOfShortestAndLongest();
        whoseOfOtherLengths();
        chainOfNoLetter();
        chainOfNone();
        chainFrom0To4();
        chainNotSoMany();
        chainFirstRow();
        chainEachOnce();
        due.end();
    }

    /** Three words, the second one lost, and a brown copy. */
    private static SmokedLetters used() {
        SmokedLetters x = Due.told("q3;t0 5;k6 3 4;k16 4 5;k0 10 10;");
        x.puts(0, 0);
        x.keep(0);
        Due.write(x, 3, 1, 0);
        x.smokes(0);
        x.brown(0);
        x.day();
        x.type('q');
        return x;
    }

    private static void asks(String name, ToLongFunction<SmokedLetters> call, int want) {
        due.changesNothing(name, LettersBoundsTest::used, call, want);
    }

    private static SmokedLetters with(String text, int... words) {
        SmokedLetters x = Due.told(text);
        Due.write(x, words);
        return x;
    }

    private static void copy(SmokedLetters x, int k, int... words) {
        x.tears();
        Due.write(x, words);
        x.brown(k);
    }

    private static void writes0To9() {
        for (int word : new int[] {LEAST, NONE, -1, 10, 11, GREATEST}) {
            asks("19: no WORD " + word, x -> x.writes(word), BAD);
        }
        for (int word = 0; word <= 9; word++) {
            SmokedLetters x = used();
            due.is("19: WORD " + word, x.writes(word), 4);
            due.is("19: it stands at the end", x.word(3), word);
        }
    }

    private static void writesUpTo5() {
        SmokedLetters x = new SmokedLetters();
        for (int i = 0; i < 5; i++) {
            due.is("19: how many", x.writes(9 - i), i + 1);
        }
        for (int i = 0; i < 5; i++) {
            due.is("19: as they come", x.word(i), 9 - i);
        }
        Supplier<SmokedLetters> five = () -> with("k1 1 2;", 9, 8, 7, 6, 5);
        due.changesNothing("19: FULL: 5", five, y -> y.writes(0), FULL);
        due.changesNothing("19: BAD ahead of FULL", five, y -> y.writes(10), BAD);
        x.tears();
        due.is("19: room behind tears()", x.writes(0), 1);
        SmokedLetters zeros = with("", 0, 0, 0, 0, 0);
        due.is("19: five 0s are five WORDS", zeros.count(5), 5);
        due.is("19: five 0s are FULL", zeros.writes(0), FULL);
        SmokedLetters lost = with("k1023 10 10;", 0, 0, 0, 0, 0);
        lost.smokes(0);
        due.is("19: five LOST are FULL", lost.writes(0), FULL);
        lost.undo();
        lost.undo();
        due.is("19: room behind undo()", lost.writes(3), 5);
    }

    private static void tearsWhatThereIs() {
        for (int words = 0; words <= 5; words++) {
            SmokedLetters x = with("", new int[words]);
            due.is("20: how many it had", x.tears(), words);
            due.is("20: empty then", x.count(5), 0);
            due.is("20: no word", x.word(0), BAD);
            due.is("20: none more", x.tears(), 0);
        }
        SmokedLetters x = used();
        due.is("20: LOST ones, too", x.tears(), 3);
        due.is("20: BROWN ones stay", x.count(6), 1);
        due.is("20: the first anew", x.writes(7), 1);
        due.is("20: it is that one", x.word(0), 7);
    }

    private static void smokesWithoutSuchThing() {
        for (int k : new int[] {LEAST, NONE, -1, 3, 4, GREATEST}) {
            asks("21: no CLERK " + k, x -> x.smokes(k), BAD);
        }
        SmokedLetters four = with("k0 1 2;k0 1 2;k0 1 2;k8 1 2;", 3);
        due.is("21: the fourth", four.smokes(3), 1);
        due.is("21: a fifth", four.smokes(4), BAD);
    }

    private static void smokesNothingAndAll() {
        SmokedLetters x = with("k1023 0 9;k0 10 10;");
        due.is("21: no LETTER", x.smokes(0), 0);
        due.is("21: no LETTER then", x.count(5), 0);
        Due.write(x, 0, 1, 5, 8, 9);
        due.is("21: who BURNS nothing", x.smokes(1), 0);
        for (int i = 0; i < 5; i++) {
            due.is("21: the others stand", x.word(i), new int[] {0, 1, 5, 8, 9}[i]);
        }
        due.is("21: who BURNS all", x.smokes(0), 5);
        due.is("21: as long", x.count(5), 5);
        for (int word = 0; word <= 9; word++) {
            SmokedLetters one = with("k" + (1 << word) + " 10 10;", (word + 9) % 10, word, (word + 1) % 10);
            due.is("21: bit of WORD " + word, one.smokes(0), 1);
            due.is("21: LOST at its place", one.word(1), LOST);
        }
    }

    private static void mercyAndFire() {
        SmokedLetters x = with("k0 0 9;k0 9 0;", 0, 9, 5, 0, 9);
        due.is("21: MERCY loses none", x.smokes(0), 0);
        due.is("21: m is n then, 0", x.word(0), 9);
        due.is("21: n stands", x.word(1), 9);
        due.is("21: another stands", x.word(2), 5);
        x.smokes(1);
        due.is("21: m is n then, 9", x.word(1), 0);
        SmokedLetters fire = with("k8 3 4;k16 3 4;", 3, 4);
        due.is("21: m is burnt ahead of MERCY", fire.smokes(0), 1);
        due.is("21: m is LOST", fire.word(0), LOST);
        due.is("21: n is not", fire.word(1), 4);
        fire.undo();
        due.is("21: n is burnt, not what MERCY writes", fire.smokes(1), 1);
        due.is("21: MERCY wrote it", fire.word(0), 4);
        due.is("21: n is LOST", fire.word(1), LOST);
    }

    private static void lostStaysSo() {
        SmokedLetters x = with("k1 10 10;k0 0 9;k0 10 10;k1023 10 10;", 0, 1);
        for (int k = 0; k < 3; k++) {
            due.is("21: LOST stays so, by " + k, x.smokes(k), 1);
            due.is("21: it is LOST", x.word(0), LOST);
            due.is("21: the other one stands", x.word(1), 1);
        }
        due.is("21: all", x.smokes(3), 2);
        due.is("21: again", x.smokes(3), 2);
    }

    private static void wordAtAPlace() {
        for (int i : new int[] {LEAST, NONE, -1, 3, 4, 5, GREATEST}) {
            asks("22: no place " + i, x -> x.word(i), BAD);
        }
        asks("22: the first", x -> x.word(0), 4);
        asks("22: 10: LOST", x -> x.word(1), LOST);
        asks("22: the last", x -> x.word(2), 0);
        SmokedLetters five = with("", 5, 6, 7, 8, 9);
        due.is("22: the fifth", five.word(4), 9);
        due.is("22: a sixth", five.word(5), BAD);
        due.is("22: no LETTER", new SmokedLetters().word(0), BAD);
    }

    private static SmokedLetters browned(int copies, int... words) {
        SmokedLetters x = with("k6 3 4;k16 4 5;", words);
        for (int i = 0; i < copies; i++) {
            x.brown(i % 2);
        }
        return x;
    }

    private static void brownWithoutSuchThing() {
        for (int k : new int[] {LEAST, NONE, -1, 3, 4, GREATEST}) {
            asks("23: no CLERK " + k, x -> x.brown(k), BAD);
        }
        due.is("23: the last CLERK", used().brown(2), 2);
        due.changesNothing("23: BAD ahead of STATE", () -> with("k6 3 4;"), x -> x.brown(1), BAD);
        due.changesNothing("23: BAD ahead of FULL", () -> browned(4, 1), x -> x.brown(2), BAD);
    }

    private static void brownOfAnEmptyLetter() {
        due.changesNothing("23: STATE: empty", () -> with("k6 3 4;"), x -> x.brown(0), STATE);
        Supplier<SmokedLetters> torn = () -> {
            SmokedLetters x = browned(1, 1, 2);
            x.tears();
            return x;
        };
        due.changesNothing("23: STATE: empty, others are BROWN", torn, x -> x.brown(0), STATE);
    }

    private static void brownOnesAreAsLong() {
        for (int words = 1; words <= 5; words++) {
            SmokedLetters x = browned(1, new int[words]);
            due.is("23: as long as others, " + words, x.brown(1), 2);
            if (words < 5) {
                x.writes(0);
                due.is("23: STATE: longer than " + words, x.brown(0), STATE);
                x.undo();
            }
            x.undo();
            due.is("23: STATE: shorter than " + words, x.brown(0), STATE);
            due.is("23: two stay", x.count(6), 2);
        }
        Supplier<SmokedLetters> longer = () -> {
            SmokedLetters x = browned(1, 1, 2);
            x.writes(3);
            return x;
        };
        due.changesNothing("23: STATE: longer than the one", longer, x -> x.brown(0), STATE);
        Supplier<SmokedLetters> shorter = () -> {
            SmokedLetters x = browned(1, 1, 2);
            x.undo();
            return x;
        };
        due.changesNothing("23: STATE: shorter than the one", shorter, x -> x.brown(0), STATE);
        SmokedLetters x = longer.get();
        x.burn();
        due.is("23: any length behind burn()", x.brown(0), 1);
        SmokedLetters lost = browned(1, 1, 0);
        lost.smokes(0);
        due.is("23: LOST ones make it no shorter", lost.brown(0), 2);
    }

    private static void fourBrownAtMost() {
        SmokedLetters x = browned(0, 1, 2);
        for (int copies = 1; copies <= 4; copies++) {
            due.is("23: how many", x.brown(0), copies);
        }
        due.changesNothing("23: FULL", () -> browned(4, 1, 2), y -> y.brown(0), FULL);
        Supplier<SmokedLetters> longer = () -> {
            SmokedLetters y = browned(4, 1, 2);
            y.writes(3);
            return y;
        };
        due.changesNothing("23: STATE ahead of FULL, not as long", longer, y -> y.brown(0), STATE);
        Supplier<SmokedLetters> torn = () -> {
            SmokedLetters y = browned(4, 1, 2);
            y.tears();
            return y;
        };
        due.changesNothing("23: STATE ahead of FULL, empty", torn, y -> y.brown(0), STATE);
        x.burn();
        due.is("23: room behind burn()", x.brown(0), 1);
    }

    private static void brownIsAsItIsNow() {
        SmokedLetters x = browned(1, 5);
        x.tears();
        x.writes(6);
        due.is("23: as it was then", x.stood(0), 1 << 5);
        x.undo();
        x.undo();
        x.undo();
        due.is("23: it stays behind undo()", x.stood(0), 1 << 5);
        due.is("23: no LETTER, but a BROWN one", x.count(5) * 10 + x.count(6), 1);
    }

    private static void burnTellsHowManyThereWere() {
        for (int copies = 0; copies <= 4; copies++) {
            SmokedLetters x = browned(copies, 1, 2);
            due.is("24: how many there were", x.burn(), copies);
            due.is("24: nothing is BROWN", x.count(6), 0);
            due.is("24: none more", x.burn(), 0);
            due.is("24: THE LETTER stays", x.count(5), 2);
            due.is("24: it can't be UNDONE", x.now(5), 2);
        }
        due.changesNothing("24: nothing was BROWN", () -> browned(0, 1, 2), x -> x.burn(), 0);
    }

    private static void stoodAtAPlace() {
        for (int i : new int[] {LEAST, NONE, -1, 3, 5, GREATEST}) {
            asks("25: no place " + i, x -> x.stood(i), BAD);
        }
        asks("25: the first", x -> x.stood(0), 1 << 3 | 1 << 4);
        asks("25: LOST", x -> x.stood(1), 6);
        asks("25: the last", x -> x.stood(2), 1);
        due.changesNothing("25: nothing is BROWN", () -> browned(0, 1, 2), x -> x.stood(0), BAD);
        SmokedLetters x = browned(1, 7, 7, 7, 7, 7);
        due.is("25: the fifth", x.stood(4), 1 << 7);
        due.is("25: a sixth", x.stood(5), BAD);
        x.tears();
        due.is("25: places of the BROWN ones, not THE LETTER's", x.stood(4), 1 << 7);
        SmokedLetters longer = browned(1, 7);
        longer.writes(7);
        due.is("25: a place of THE LETTER alone", longer.stood(1), BAD);
    }

    private static void stoodOfAllOrNone() {
        SmokedLetters x = with("k1023 10 10;k0 0 9;k0 10 10;", 0);
        x.smokes(0);
        x.brown(0);
        due.is("25: all WORDS", x.stood(0), 1023);
        x.burn();
        x.brown(1);
        due.is("25: LOST by one who BURNS none", x.stood(0), 0);
        x.burn();
        copy(x, 1, 0);
        due.is("25: m, which he writes never", x.stood(0), 0);
        x.burn();
        copy(x, 1, 9);
        due.is("25: n, or m", x.stood(0), 1 << 0 | 1 << 9);
        x.burn();
        copy(x, 0, 5);
        due.is("25: what he BURNS", x.stood(0), 0);
        for (int word = 0; word <= 9; word++) {
            x.burn();
            copy(x, 2, word);
            due.is("25: WORD " + word + " itself", x.stood(0), 1 << word);
        }
    }

    private static void stoodByEachCopy() {
        SmokedLetters x = with("k0 1 2;k0 3 2;k0 2 5;k0 10 10;");
        copy(x, 0, 2);
        due.is("25: by one copy", x.stood(0), 1 << 1 | 1 << 2);
        copy(x, 1, 2);
        due.is("25: by two copies", x.stood(0), 1 << 2);
        copy(x, 2, 5);
        due.is("25: by three copies", x.stood(0), 1 << 2);
        copy(x, 3, 5);
        due.is("25: by four copies, none", x.stood(0), 0);
        x.burn();
        copy(x, 0, 2);
        copy(x, 0, 2);
        due.is("25: the same CLERK twice", x.stood(0), 1 << 1 | 1 << 2);
        // Each CLERK's of that LETTER itself: not one's copy of another's copy.
        x.burn();
        copy(x, 0, 2);
        copy(x, 2, 1);
        due.is("25: each CLERK's of that LETTER itself", x.stood(0), 1 << 1);
    }

    private static void lettersOfNothingBrown() {
        due.changesNothing("26: nothing BROWN: 0", () -> browned(0, 1, 2), x -> x.letters(NONE), 0);
        due.changesNothing("26: nothing BROWN, a place", () -> browned(0, 1, 2), x -> x.letters(0), BAD);
        SmokedLetters x = browned(2, 1, 2);
        x.burn();
        due.is("26: nothing BROWN behind burn()", x.letters(NONE), 0);
        due.is("26: no place behind burn()", x.letters(0), BAD);
    }

    private static void lettersAtAPlace() {
        for (int i : new int[] {LEAST, -10, -8, -1, 3, 5, GREATEST}) {
            asks("26: no place " + i, x -> x.letters(i), BAD);
        }
        asks("26: how many", x -> x.letters(NONE), 4);
        asks("26: the first", x -> x.letters(0), NOT_ONE);
        asks("26: the last", x -> x.letters(2), 0);
        SmokedLetters x = browned(1, 1, 7);
        due.is("26: LETTERS are none", x.letters(NONE), 0);
        due.is("26: BAD ahead of NONE", x.letters(2), BAD);
        due.is("26: BAD ahead of NONE, below", x.letters(-1), BAD);
    }

    private static void lettersFrom0To100000() {
        int[] most = {10, 100, 1000, 10000, 100000};
        for (int words = 1; words <= 5; words++) {
            SmokedLetters x = with("k1023 10 10;k0 10 10;", new int[words]);
            x.brown(1);
            due.is("26: one, of " + words, x.letters(NONE), 1);
            x.burn();
            x.smokes(0);
            x.brown(0);
            due.is("26: any, of " + words, x.letters(NONE), most[words - 1]);
            due.is("26: any at its last place", x.letters(words - 1), NOT_ONE);
            x.brown(1);
            due.is("26: none, of " + words, x.letters(NONE), 0);
            due.is("26: NONE: LETTERS are none", x.letters(words - 1), NONE);
        }
    }

    private static void sureOrNot() {
        SmokedLetters x = with("k0 10 10;k3 8 9;");
        copy(x, 0, 0, 9);
        due.is("26: SURE of 0", x.letters(0), 0);
        due.is("26: SURE of 9", x.letters(1), 9);
        x.burn();
        copy(x, 1, 9, 5);
        due.is("26: not one alone, two", x.letters(0), NOT_ONE);
        due.is("26: SURE beside it", x.letters(1), 5);
        x.burn();
        copy(x, 1, 0, 5);
        due.is("26: LETTERS are none by the other place", x.letters(1), NONE);
        due.is("26: LETTERS are none by this place", x.letters(0), NONE);
        due.is("26: none", x.letters(NONE), 0);
    }

    /** Numbers that are no letter of 1 to 5 words 0 .. 9. */
    private static final int[] NO_LETTERS = {LEAST, -12, NONE, -1, 0, 1, 2, 10, 21, 22, 23, 109, 120, 131, 242,
        Due.number(10), Due.number(10, 0), Due.number(0, 10), Due.number(9, 9, 9, 9, 10), Due.number(10, 9, 9, 9, 9),
        Due.number(9, 9, 10, 9, 9), Due.number(9, 9, 9, 9, 9) + 1, 2 * 161051, 3 * 14641, 5 * 1331, 1771561,
        Due.number(0, 0, 0, 0, 0, 0), Due.number(0, 0, 0, 0, 0, 1), Due.number(0, 0, 0, 0, 0, 0, 0, 0), GREATEST};

    private static void whoseOfNoLetter() {
        for (int letter : NO_LETTERS) {
            asks("27: no LETTER " + letter, x -> x.whose(letter), BAD);
        }
        asks("27: of a LETTER", x -> x.whose(Due.number(3, 1, 0)), 1);
        due.is("27: of no LETTER there, BAD first", new SmokedLetters().whose(1), BAD);
    }

    private static void whoseOfShortestAndLongest() {
        for (int word = 0; word <= 9; word++) {
            SmokedLetters x = with("k0 10 10;k0 10 10;", word);
            due.is("27: one WORD " + word, x.whose(11 + word), 3);
            due.is("27: another one", x.whose(11 + (word + 1) % 10), 0);
        }
        SmokedLetters zeros = with("k0 10 10;", 0, 0, 0, 0, 0), nines = with("k0 10 10;", 9, 9, 9, 9, 9);
        due.is("27: the least of 5 WORDS", zeros.whose(161051), 1);
        due.is("27: the greatest of 5 WORDS", nines.whose(Due.number(9, 9, 9, 9, 9)), 1);
        SmokedLetters four = with("k0 10 10;k2 10 10;k1 10 10;k1023 10 10;", 1, 2);
        due.is("27: the first and the third", four.whose(Due.number(1, 2)), 5);
        four.smokes(3);
        due.is("27: the fourth", four.whose(Due.number(1, 2)), 8);
        due.is("27: no CLERKS", with("", 1).whose(12), 0);
    }

    private static void whoseOfOtherLengths() {
        SmokedLetters x = with("k1023 10 10;k0 10 10;", 0, 0, 0);
        due.is("27: shorter", x.whose(Due.number(0, 0)), 0);
        due.is("27: as long", x.whose(Due.number(0, 0, 0)), 2);
        due.is("27: longer", x.whose(Due.number(0, 0, 0, 0)), 0);
        x.tears();
        due.is("27: THE LETTER is empty", x.whose(11), 0);
    }

    private static void chainOfNoLetter() {
        for (int letter : NO_LETTERS) {
            asks("28: no LETTER " + letter, x -> x.chain(letter, -1), BAD);
        }
        for (int i : new int[] {LEAST, NONE, -5, -2}) {
            asks("28: no place " + i, x -> x.chain(Due.number(3, 1, 0), i), BAD);
        }
        asks("28: both", x -> x.chain(1, -2), BAD);
        asks("28: no LETTER, a place far off", x -> x.chain(1, GREATEST), BAD);
        asks("28: BAD ahead of NONE", x -> x.chain(Due.number(9), -2), BAD);
    }

    private static void chainOfNone() {
        asks("28: NONE, how many", x -> x.chain(Due.number(9, 9, 9), -1), NONE);
        asks("28: NONE, the first", x -> x.chain(Due.number(9, 9, 9), 0), NONE);
        asks("28: NONE, a place far off", x -> x.chain(Due.number(9, 9, 9), GREATEST), NONE);
        asks("28: NONE, another length", x -> x.chain(Due.number(3, 1), -1), NONE);
        due.is("28: NONE, no LETTER", Due.told("k1023 10 10;").chain(11, -1), NONE);
        due.is("28: NONE, no CLERKS", with("", 1).chain(13, -1), NONE);
    }

    private static void chainFrom0To4() {
        String text = "k0 4 5;k0 3 4;k0 2 3;k0 1 2;";
        for (int clerks = 0; clerks <= 4; clerks++) {
            SmokedLetters x = with(text, 5);
            int letter = Due.number(5 - clerks);
            due.is("28: how many", x.chain(letter, -1), clerks);
            for (int i = 0; i < clerks; i++) {
                due.is("28: the i-th of " + clerks, x.chain(letter, i), clerks - 1 - i);
            }
            due.is("28: not so many as " + clerks, x.chain(letter, clerks), NOT_ONE);
        }
        due.is("28: no CLERKS are needed", with("", 1).chain(12, -1), 0);
        due.is("28: five WORDS", with("k0 9 8;", 8, 8, 8, 8, 8).chain(Due.number(9, 9, 9, 9, 9), -1), 1);
    }

    private static void chainNotSoMany() {
        asks("28: one", x -> x.chain(Due.number(3, 1, 0), -1), 1);
        asks("28: the first", x -> x.chain(Due.number(3, 1, 0), 0), 0);
        for (int i : new int[] {1, 2, 3, 4, 5, 512, GREATEST}) {
            asks("28: -5: not so many, " + i, x -> x.chain(Due.number(3, 1, 0), i), NOT_ONE);
        }
        SmokedLetters none = with("k0 1 2;", 1);
        due.is("28: -5: not so many, of none", none.chain(12, 0), NOT_ONE);
    }

    private static void chainFirstRow() {
        SmokedLetters x = with("k0 1 2;k0 1 2;k0 5 6;k0 5 6;", 2, 6);
        int letter = Due.number(1, 5);
        due.is("28: the fewest", x.chain(letter, -1), 2);
        due.is("28: the first row, its first", x.chain(letter, 0), 0);
        due.is("28: the first row, its second", x.chain(letter, 1), 2);
        SmokedLetters few = with("k0 1 2;k0 2 3;k0 1 3;", 3);
        due.is("28: the fewest, not the first of all", few.chain(Due.number(1), -1), 1);
        due.is("28: that one", few.chain(Due.number(1), 0), 2);
        SmokedLetters fire = with("k2 10 10;k0 1 2;k6 10 10;", 1);
        fire.smokes(0);
        due.is("28: the first of those who make it alone", fire.chain(Due.number(1), 0), 0);
    }

    private static void chainEachOnce() {
        SmokedLetters x = with("k0 1 2;k0 2 1;", 2);
        due.is("28: each once at most, one", x.chain(Due.number(1), -1), 1);
        due.is("28: each once at most, none", x.chain(Due.number(2), -1), 0);
        SmokedLetters twice = with("k0 1 2;k0 2 3;k0 3 1;", 2);
        due.is("28: a row round to it again", twice.chain(Due.number(3), -1), 2);
        // By clerk 0 twice 1 would be LOST; the others leave room for rows of more than one.
        SmokedLetters again = with("k4 1 2;k0 10 10;k0 10 10;", 2);
        again.smokes(0);
        due.is("28: the same CLERK twice", again.chain(Due.number(1), -1), NONE);
        due.is("28: once", again.chain(Due.number(2), -1), 1);
        // 1 becomes 4 by clerk 0, then 5 by clerk 1, which clerk 0 alone would burn.
        SmokedLetters between = with("k32 1 4;k0 4 5;k0 10 10;", 5);
        between.smokes(0);
        due.is("28: the same CLERK twice, another between", between.chain(Due.number(1), -1), NONE);
        due.is("28: the other one and he", between.chain(Due.number(4), -1), 2);
        due.is("28: the other one first", between.chain(Due.number(4), 0), 1);
    }
}
