import java.util.function.ToLongFunction;

/** The bounds that the document names for puts, day, sails and undo. */
public final class DaysBoundsTest {
    private static final int BAD = -1, STATE = -2, NONE = -9;
    private static final int LEAST = Integer.MIN_VALUE, GREATEST = Integer.MAX_VALUE;
    private static final Due due = new Due();
    private static final String SIX = "t0 0;t0 0;t0 0;t0 0;t0 0;t0 0;";

    public static void main(String[] args) {
        putsWithoutSuchThing();
        putsFromTheDayHeComes();
        putsOneInARow();
        putsOneWhoIsGone();
        putsForTwoReasons();
        allInThatRowHave0Days();
        rowOfSix();
        dayIs200AtMost();
        oneDayMoreInRows();
        leavesWithTheHoldsDays();
        vinegarOfOneRow();
        vinegarRowByRow();
        sailsWithoutSuchThing();
        sailsWhoMayNotLeave();
        sailsWithoutABoat();
        sailsForTwoReasons();
        sailsAndTheOthersStay();
        undoOfNothing();
        undoOfEachCall();
        undoOfTen();
        undoGoesRound();
        undoAndCallsThatAreNotKnown();
        undoAndRefusedCalls();
        due.end();
    }

    /** Day 4: 0 is gone, 1 has 4 days in row 0, 2 is in no row, 3 is to come. */
    private static SmokedLetters used() {
        SmokedLetters x = Due.told("q3;r2;b2;t0 5;t0 2;t0 1;t5 0;k6 3 4;");
        x.puts(0, 0);
        x.puts(1, 0);
        Due.days(x, 4);
        x.sails(0);
        x.keep(1);
        Due.write(x, 3, 1);
        x.brown(0);
        x.type('q');
        return x;
    }

    private static void refused(String name, ToLongFunction<SmokedLetters> call, int want) {
        due.changesNothing(name, DaysBoundsTest::used, call, want);
    }

    private static void putsWithoutSuchThing() {
        for (int t : new int[] {LEAST, NONE, -1, 4, 6, 32, GREATEST}) {
            refused("8: no TRAVELLER " + t, x -> x.puts(t, 0), BAD);
        }
        for (int row : new int[] {LEAST, NONE, -1, 2, 3, GREATEST}) {
            refused("8: no ROW " + row, x -> x.puts(2, row), BAD);
        }
        due.is("8: the first ROW", used().puts(2, 0), 2);
        due.is("8: the last ROW", used().puts(2, 1), 1);
    }

    private static void putsFromTheDayHeComes() {
        for (int comes : new int[] {0, 1, 40}) {
            SmokedLetters x = Due.told("t" + comes + " 0;");
            for (int date = 0; date < comes; date++) {
                due.is("8: he is to come yet, on day " + date + " of " + comes, x.puts(0, 0), STATE);
                x.day();
            }
            due.is("8: on the DAY on which he COMES", x.puts(0, 0), 1);
            x.undo();
            Due.days(x, 200 - comes);
            due.is("8: on the last day", x.puts(0, 0), 1);
        }
        refused("8: he is to come yet", x -> x.puts(3, 0), STATE);
    }

    private static void putsOneInARow() {
        refused("8: in that ROW", x -> x.puts(1, 0), STATE);
        refused("8: in another ROW", x -> x.puts(1, 1), STATE);
    }

    private static void putsOneWhoIsGone() {
        refused("8: GONE", x -> x.puts(0, 0), STATE);
        refused("8: GONE, another ROW", x -> x.puts(0, 1), STATE);
        SmokedLetters x = Due.told("q1;t0 0;");
        x.puts(0, 1);
        x.day();
        x.sails(0);
        x.undo();
        x.undo();
        x.undo();
        due.is("8: nobody is GONE who was taken back", x.puts(0, 0), 1);
    }

    private static void putsForTwoReasons() {
        refused("8: to come, and no ROW", x -> x.puts(3, 2), BAD);
        refused("8: in a ROW, and no ROW", x -> x.puts(1, -1), BAD);
        refused("8: GONE, and no ROW", x -> x.puts(0, 2), BAD);
        refused("8: neither", x -> x.puts(4, 2), BAD);
    }

    private static void allInThatRowHave0Days() {
        SmokedLetters x = Due.told("q2;r3;" + SIX);
        x.puts(0, 0);
        x.puts(1, 1);
        x.day();
        x.puts(2, 0);
        due.is("PUT: who was there has 0 DAYS", x.traveller(0, 3), 0);
        due.is("PUT: so has he", x.traveller(2, 3), 0);
        due.is("PUT: not so another ROW", x.traveller(1, 3), 1);
        Due.days(x, 3);
        due.is("PUT: all may LEAVE", x.now(2), 7);
        x.puts(3, 1);
        due.is("PUT: who may LEAVE may not then", x.now(2), 5);
        x.puts(4, 2);
        due.is("PUT: into an empty ROW", x.now(2), 5);
    }

    private static void rowOfSix() {
        for (int row = 0; row < 3; row++) {
            SmokedLetters x = Due.told("r3;" + SIX);
            for (int t = 5; t >= 0; t--) {
                due.is("8: how many are in it", x.puts(t, row), 6 - t);
            }
        }
    }

    private static SmokedLetters atDay(int date) {
        SmokedLetters x = Due.told("q40;" + SIX);
        for (int t = 0; t < 6; t++) {
            x.puts(t, 1);
        }
        Due.days(x, date);
        return x;
    }

    private static void dayIs200AtMost() {
        SmokedLetters x = atDay(199);
        due.is("9: the 200th", x.day(), 63);
        due.is("9: THE DAY is 200", x.now(0), 200);
        due.is("9: a BOAT sails on it", x.now(4), 1);
        due.changesNothing("9: STATE: it is DAY 200", () -> atDay(200), y -> y.day(), STATE);
        due.is("9: he may sail on it", x.sails(5), 1);
        x.undo();
        due.is("9: taken back", x.undo(), 8);
        due.is("9: THE DAY is 199", x.now(0), 199);
        due.is("9: and 200 again", x.day(), 63);
        due.is("9: no more", x.day(), STATE);
        due.is("9: DAYS of 200", x.traveller(0, 3), 200);
        due.is("9: VINEGAR of 200 days", x.now(1), 800);
    }

    private static void oneDayMoreInRows() {
        SmokedLetters x = Due.told("q1;" + SIX);
        due.is("9: nobody in ROWS", x.day(), 0);
        due.is("9: no VINEGAR", x.now(1), 0);
        due.is("9: THE DAY", x.now(0), 1);
        x.puts(0, 0);
        due.is("9: 0 DAYS, whatever day it is", x.traveller(0, 3), 0);
        due.is("9: one DAY more", x.day(), 1);
        due.is("9: his DAYS", x.traveller(0, 3), 1);
        due.is("9: who is in none has none", x.traveller(1, 3), 0);
        x.sails(0);
        due.is("9: who is GONE may not LEAVE", x.day(), 0);
    }

    private static void leavesWithTheHoldsDays() {
        for (int hold : new int[] {1, 2, 39, 40}) {
            SmokedLetters x = Due.told("q" + hold + ";t0 0;t0 0;");
            x.puts(1, 0);
            due.is("LEAVE: with 0 DAYS", x.now(2), 0);
            for (int days = 1; days < hold; days++) {
                due.is("LEAVE: too few of " + hold, x.day(), 0);
            }
            due.is("LEAVE: with THE HOLD's DAYS", x.day(), 2);
            due.is("LEAVE: with more", x.day(), 2);
        }
    }

    private static void vinegarOfOneRow() {
        int[] takes = {0, 1, 2, 2, 3, 3, 4};
        for (int many = 0; many <= 6; many++) {
            SmokedLetters x = Due.told("r1;" + SIX);
            for (int t = 0; t < many; t++) {
                x.puts(t, 0);
            }
            due.is("VINEGAR: 0 at first", x.now(1), 0);
            x.day();
            due.is("VINEGAR: a row of " + many, x.now(1), takes[many]);
            x.day();
            due.is("VINEGAR: a second day of " + many, x.now(1), 2 * takes[many]);
        }
    }

    private static void vinegarRowByRow() {
        int[][] rows = {{0, 1, 2, NONE, NONE, NONE, 3}, {0, 0, 0, 1, 1, 1, 4}, {0, 0, 1, 1, 2, 2, 6},
            {2, 2, 2, 2, 2, 0, 4}, {NONE, NONE, NONE, NONE, 2, 2, 2}};
        for (int[] row : rows) {
            SmokedLetters x = Due.told("r3;" + SIX);
            for (int t = 0; t < 6; t++) {
                x.puts(t, row[t]);
            }
            x.day();
            due.is("VINEGAR: each two of them, row by row", x.now(1), row[6]);
        }
        SmokedLetters x = Due.told("q1;" + SIX);
        x.puts(0, 0);
        x.puts(1, 0);
        x.day();
        x.sails(0);
        x.day();
        due.is("VINEGAR: one is GONE", x.now(1), 3);
        x.sails(1);
        x.day();
        due.is("VINEGAR: both are GONE", x.now(1), 3);
    }

    private static void sailsWithoutSuchThing() {
        for (int t : new int[] {LEAST, NONE, -1, 4, 6, 33, GREATEST}) {
            refused("10: no TRAVELLER " + t, x -> x.sails(t), BAD);
        }
    }

    private static void sailsWhoMayNotLeave() {
        refused("10: GONE", x -> x.sails(0), STATE);
        refused("10: in no ROW", x -> x.sails(2), STATE);
        refused("10: to come", x -> x.sails(3), STATE);
        due.is("10: he may", used().sails(1), 2);
        SmokedLetters x = Due.told("q2;t0 0;");
        x.puts(0, 0);
        due.is("10: 0 DAYS", x.sails(0), STATE);
        x.day();
        due.is("10: a DAY too few", x.sails(0), STATE);
        x.day();
        due.is("10: THE HOLD's DAYS", x.sails(0), 1);
    }

    private static void sailsWithoutABoat() {
        SmokedLetters x = Due.told("q1;b9;" + SIX);
        x.puts(0, 0);
        x.puts(1, 0);
        for (int date = 1; date < 18; date++) {
            x.day();
            due.is("10: he may LEAVE", x.now(2) & 1, 1);
            if (date == 9) {
                due.is("10: the BOAT of day 9", x.sails(1), 1);
            } else {
                due.is("10: no BOAT sails on day " + date, x.sails(0), STATE);
            }
        }
        x.day();
        due.is("10: the BOAT of day 18", x.sails(0), 2);
    }

    private static void sailsForTwoReasons() {
        SmokedLetters x = used();
        x.day();
        due.is("10: no TRAVELLER, no BOAT", x.sails(4), BAD);
        due.is("10: may not LEAVE, no BOAT", x.sails(2), STATE);
        due.is("10: no BOAT alone", x.sails(1), STATE);
    }

    private static void sailsAndTheOthersStay() {
        SmokedLetters x = Due.told("q1;r3;" + SIX);
        for (int t = 0; t < 6; t++) {
            x.puts(t, t % 2 * 2);
        }
        Due.days(x, 3);
        for (int t = 0; t < 5; t++) {
            due.is("10: how many are GONE", x.sails(t), t + 1);
            due.is("10: the last one's ROW", x.traveller(5, 2), 2);
            due.is("10: the last one's DAYS", x.traveller(5, 3), 3);
        }
        due.is("10: all are GONE", x.sails(5), 6);
        due.is("10: nobody may LEAVE", x.now(2), 0);
    }

    private static void undoOfNothing() {
        due.changesNothing("11: STATE: none", SmokedLetters::new, x -> x.undo(), STATE);
        SmokedLetters x = new SmokedLetters();
        x.day();
        due.is("11: none more", x.undo(), 0);
        due.is("11: STATE behind the last one", x.undo(), STATE);
        due.is("11: DAY 0", x.now(0), 0);
    }

    private static void undoOfEachCall() {
        due.holds("11: puts()", taken(x -> x.puts(2, 0)));
        due.holds("11: day()", taken(x -> x.day()));
        due.holds("11: sails()", taken(x -> x.sails(1)));
        due.holds("11: writes()", taken(x -> x.writes(9)));
        due.holds("11: tears()", taken(x -> x.tears()));
        due.holds("11: smokes()", taken(x -> x.smokes(0)));
        SmokedLetters x = Due.told("k0 10 10;");
        x.tears();
        due.is("11: tears() of no LETTER is known", x.now(5), 1);
        x.smokes(0);
        due.is("11: smokes() of no LETTER is known", x.now(5), 2);
    }

    /** Whether a call is known, and undo() leaves all as it was ahead of it. */
    private static boolean taken(ToLongFunction<SmokedLetters> call) {
        SmokedLetters x = used();
        boolean known = call.applyAsLong(x) >= 0 && x.now(5) == 10;
        String ahead = Looks.behind(DaysBoundsTest::withRoomForOneMore, y -> 0);
        return known && Looks.behind(DaysBoundsTest::withRoomForOneMore, y -> {
            call.applyAsLong(y);
            return y.undo();
        }).equals(ahead);
    }

    private static SmokedLetters withRoomForOneMore() {
        SmokedLetters x = used();
        Due.days(x, 2);
        x.undo();
        x.undo();
        return x;
    }

    private static void undoOfTen() {
        for (int calls = 1; calls <= 12; calls++) {
            SmokedLetters x = new SmokedLetters();
            Due.days(x, calls);
            int known = Math.min(calls, 10);
            due.is("11: known of " + calls, x.now(5), known);
            for (int more = known - 1; more >= 0; more--) {
                due.is("11: how many more of " + calls, x.undo(), more);
            }
            due.is("11: older ones are lost", x.undo(), STATE);
            due.is("11: the DAY behind " + calls, x.now(0), calls - known);
        }
    }

    private static void undoGoesRound() {
        SmokedLetters x = new SmokedLetters();
        for (int round = 0; round < 7; round++) {
            Due.days(x, 9);
            for (int i = 0; i < 4; i++) {
                x.undo();
            }
            due.is("11: THE DAY, round " + round, x.now(0), 5 * (round + 1));
        }
        due.is("11: six are known", x.now(5), 6);
        Due.days(x, 4);
        due.is("11: ten are known", x.now(5), 10);
        for (int date = 38; date >= 29; date--) {
            x.undo();
            due.is("11: the latest one", x.now(0), date);
        }
        due.is("11: none", x.undo(), STATE);
    }

    private static void undoAndCallsThatAreNotKnown() {
        SmokedLetters x = used();
        int known = x.now(5);
        x.brown(0);
        x.burn();
        x.keep(0);
        x.type('!');
        x.island();
        x.clear();
        x.rate(3, 0);
        x.most(5, NONE);
        x.soonest(0);
        x.plan(0, NONE);
        x.boat(5, 0);
        due.is("11: calls that can't be UNDONE", x.now(5), known);
        due.is("11: the latest one that can", x.undo(), known - 1);
        due.is("11: it was writes()", x.count(5), 1);
        due.is("11: BROWN is not taken back", x.count(6), 0);
        due.is("11: nor is THE TRACE", x.trace(), 1011);
    }

    private static void undoAndRefusedCalls() {
        SmokedLetters x = used();
        int known = x.now(5);
        x.puts(9, 0);
        x.puts(1, 0);
        x.sails(9);
        x.sails(2);
        x.writes(10);
        x.smokes(1);
        due.is("11: refused calls are not known", x.now(5), known);
        x.undo();
        due.is("11: the latest one that was not refused", x.count(5), 1);
        SmokedLetters five = new SmokedLetters();
        Due.write(five, 1, 2, 3, 4, 5, 6);
        due.is("11: FULL is not known", five.now(5), 5);
        SmokedLetters last = atDay(200);
        last.undo();
        last.day();
        last.day();
        last.undo();
        due.is("11: day() at 200 is not known", last.now(0), 199);
    }
}
