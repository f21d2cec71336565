import java.util.function.ToLongFunction;

/** The bounds that the document names for clean and well. */
public final class SpotsBoundsTest {
    private static final int BAD = -1, NONE = -9;
    private static final int LEAST = Integer.MIN_VALUE, GREATEST = Integer.MAX_VALUE;
    private static final Due due = new Due();

    public static void main(String[] args) {
        cleanWithoutSuchThing();
        cleanOfAnEmptyRow();
        cleanOfCertainOnes();
        cleanOfSix();
        cleanNowInTheRow();
        wellWithoutSuchThing();
        wellOf0To6();
        wellSoManyCantBe();
        wellForCertain();
        wellOfSix();
        wellOfAllWhereverTheyAre();
        due.end();
    }

    /** 0 and 1 in row 0, 2 in none. */
    private static SmokedLetters used() {
        SmokedLetters x = Due.told("q3;r2;t0 5;t0 2;t0 1;k6 3 4;");
        x.puts(0, 0);
        x.puts(1, 0);
        x.day();
        x.keep(0);
        x.writes(3);
        x.brown(0);
        x.type('q');
        return x;
    }

    private static void asks(String name, ToLongFunction<SmokedLetters> call, long want) {
        due.changesNothing(name, SpotsBoundsTest::used, call, want);
    }

    private static void cleanWithoutSuchThing() {
        for (int row : new int[] {LEAST, NONE, -1, 2, 3, GREATEST}) {
            asks("17: no ROW " + row, x -> x.clean(row, 0), BAD);
            asks("17: no ROW " + row + ", lower", x -> x.clean(row, 1), BAD);
        }
        for (int what : new int[] {LEAST, NONE, -1, 2, GREATEST}) {
            asks("17: what " + what, x -> x.clean(0, what), BAD);
        }
        asks("17: upper", x -> x.clean(0, 0), 2);
        asks("17: lower, in least terms", x -> x.clean(0, 1), 5);
        asks("17: both", x -> x.clean(2, 2), BAD);
        for (int rows = 1; rows <= 3; rows++) {
            SmokedLetters x = Due.told("r" + rows + ";");
            due.is("17: the last ROW of " + rows, x.clean(rows - 1, 0), 1);
            due.is("17: none behind it", x.clean(rows, 0), BAD);
        }
    }

    private static void cleanOfAnEmptyRow() {
        asks("17: nobody: 1, upper", x -> x.clean(1, 0), 1);
        asks("17: nobody: 1, lower", x -> x.clean(1, 1), 1);
    }

    private static void fraction(String name, long upper, long lower, long wantUpper, long wantLower) {
        due.is(name + ", upper", upper, wantUpper);
        due.is(name + ", lower", lower, wantLower);
    }

    private static void cleanOfCertainOnes() {
        SmokedLetters x = Due.told("r3;t0 0;t0 10;t0 7;");
        x.puts(0, 0);
        x.puts(1, 1);
        fraction("17: CHANCE 0", x.clean(0, 0), x.clean(0, 1), 1, 1);
        fraction("17: CHANCE 10", x.clean(1, 0), x.clean(1, 1), 0, 1);
        x.puts(2, 1);
        fraction("17: one with CHANCE 10 among others", x.clean(1, 0), x.clean(1, 1), 0, 1);
        for (int chance = 0; chance <= 10; chance++) {
            SmokedLetters one = Due.told("t0 " + chance + ";");
            one.puts(0, 1);
            int[] upper = {1, 9, 4, 7, 3, 1, 2, 3, 1, 1, 0}, lower = {1, 10, 5, 10, 5, 2, 5, 10, 5, 10, 1};
            fraction("17: CHANCE " + chance, one.clean(1, 0), one.clean(1, 1), upper[chance], lower[chance]);
        }
    }

    private static SmokedLetters six(int chance) {
        SmokedLetters x = Due.told("r1;" + ("t0 " + chance + ";").repeat(6));
        for (int t = 0; t < 6; t++) {
            x.puts(t, 0);
        }
        return x;
    }

    private static void cleanOfSix() {
        fraction("17: six, CHANCE 1", six(1).clean(0, 0), six(1).clean(0, 1), 531441, 1000000);
        fraction("17: six, CHANCE 9", six(9).clean(0, 0), six(9).clean(0, 1), 1, 1000000);
        fraction("17: six, CHANCE 5", six(5).clean(0, 0), six(5).clean(0, 1), 1, 64);
        fraction("17: six, CHANCE 0", six(0).clean(0, 0), six(0).clean(0, 1), 1, 1);
        fraction("17: six, CHANCE 10", six(10).clean(0, 0), six(10).clean(0, 1), 0, 1);
    }

    private static void cleanNowInTheRow() {
        SmokedLetters x = Due.told("q1;t0 5;t0 2;t0 9;");
        x.puts(0, 0);
        x.puts(1, 0);
        fraction("17: who is in none is not counted", x.clean(0, 0), x.clean(0, 1), 2, 5);
        x.day();
        x.sails(0);
        fraction("17: who is GONE is not counted", x.clean(0, 0), x.clean(0, 1), 4, 5);
        x.sails(1);
        fraction("17: all are GONE", x.clean(0, 0), x.clean(0, 1), 1, 1);
    }

    private static void wellWithoutSuchThing() {
        for (int t : new int[] {LEAST, NONE, -1, 3, 6, GREATEST}) {
            asks("18: no TRAVELLER " + t, x -> x.well(t, 0, 0), BAD);
        }
        for (int what : new int[] {LEAST, NONE, -1, 2, GREATEST}) {
            asks("18: what " + what, x -> x.well(0, 0, what), BAD);
        }
        asks("18: BAD ahead of NONE, what", x -> x.well(0, 6, 2), BAD);
        asks("18: BAD ahead of NONE, a TRAVELLER", x -> x.well(3, 6, 0), BAD);
        asks("18: all", x -> x.well(3, 7, 2), BAD);
        due.is("18: nobody", new SmokedLetters().well(0, 0, 0), BAD);
    }

    private static void wellOf0To6() {
        for (int k : new int[] {LEAST, NONE, -1, 7, GREATEST}) {
            asks("18: just " + k, x -> x.well(0, k, 0), BAD);
            asks("18: just " + k + ", lower", x -> x.well(0, k, 1), BAD);
        }
        asks("18: just 0", x -> x.well(0, 0, 0), 1);
        asks("18: just 1, upper", x -> x.well(0, 1, 0), 13);
        asks("18: just 1, lower", x -> x.well(0, 1, 1), 49);
        asks("18: just 3 of three", x -> x.well(0, 3, 0), 0);
        asks("18: just 3 of three, lower", x -> x.well(0, 3, 1), 1);
        asks("18: just 6", x -> x.well(0, 6, 0), NONE);
    }

    private static void wellSoManyCantBe() {
        for (int k = 4; k <= 6; k++) {
            int many = k;
            asks("18: more than there are, " + k, x -> x.well(0, many, 0), NONE);
            asks("18: more than there are, lower, " + k, x -> x.well(0, many, 1), NONE);
        }
        SmokedLetters x = Due.told("t0 10;t0 0;t0 5;");
        long[] upper = {NONE, 1, 0, NONE}, lower = {NONE, 1, 1, NONE};
        for (int k = 0; k < 4; k++) {
            fraction("18: one is sick, one is not, just " + k, x.well(2, k, 0), x.well(2, k, 1), upper[k], lower[k]);
        }
        SmokedLetters sick = Due.told("t0 10;".repeat(6));
        due.is("18: all are sick, just 5", sick.well(0, 5, 0), NONE);
        due.is("18: all are sick, just 6", sick.well(5, 6, 0), 0);
        SmokedLetters well = Due.told("t0 0;".repeat(6));
        due.is("18: none is sick, just 1", well.well(0, 1, 0), NONE);
        due.is("18: none is sick, just 0", well.well(5, 0, 0), 1);
    }

    private static void wellForCertain() {
        SmokedLetters x = Due.told("t0 10;t0 0;t0 5;");
        fraction("18: CHANCE 10", x.well(0, 1, 0), x.well(0, 1, 1), 0, 1);
        fraction("18: CHANCE 0", x.well(1, 1, 0), x.well(1, 1, 1), 1, 1);
        SmokedLetters one = Due.told("t0 5;");
        fraction("18: one alone, just 0", one.well(0, 0, 0), one.well(0, 0, 1), 1, 1);
        fraction("18: one alone, just 1", one.well(0, 1, 0), one.well(0, 1, 1), 0, 1);
        due.is("18: one alone, just 2", one.well(0, 2, 0), NONE);
    }

    private static void wellOfSix() {
        SmokedLetters x = Due.told("t0 3;".repeat(6));
        long[] upper = {1, 5, 2, 1, 1, 1, 0}, lower = {1, 6, 3, 2, 3, 6, 1};
        for (int k = 0; k <= 6; k++) {
            fraction("18: six alike, just " + k, x.well(5, k, 0), x.well(5, k, 1), upper[k], lower[k]);
        }
        // One of six is sick: the ways of each are chance / (10 - chance), against one another.
        SmokedLetters unlike = Due.told("t0 1;t0 9;t0 9;t0 9;t0 9;t0 9;");
        fraction("18: six unlike, just 1", unlike.well(0, 1, 0), unlike.well(0, 1, 1), 405, 406);
        fraction("18: six unlike, just 5", unlike.well(0, 5, 0), unlike.well(0, 5, 1), 81, 86);
    }

    private static void wellOfAllWhereverTheyAre() {
        SmokedLetters x = Due.told("q1;t0 5;t0 2;t9 1;");
        long upper = x.well(0, 1, 0), lower = x.well(0, 1, 1);
        x.puts(0, 0);
        x.puts(1, 1);
        x.day();
        fraction("18: of all, in ROWS", x.well(0, 1, 0), x.well(0, 1, 1), upper, lower);
        x.sails(0);
        fraction("18: of all, one is GONE", x.well(0, 1, 0), x.well(0, 1, 1), upper, lower);
    }
}
