import java.util.function.ToLongFunction;

/** The bounds that the document names for most, soonest, plan, waits and boat. */
public final class PlansBoundsTest {
    private static final int BAD = -1, STATE = -2, NONE = -9;
    private static final int LEAST = Integer.MIN_VALUE, GREATEST = Integer.MAX_VALUE;
    private static final Due due = new Due();
    private static final String SIX = "t0 0;t0 0;t0 0;t0 0;t0 0;t0 0;";
    /** What is no traveller of four; some stand beside NONE. */
    private static final int[] NOBODY = {LEAST, -10, -8, -1, 4, 6, GREATEST};

    public static void main(String[] args) {
        mostByADay0To200();
        mostWithoutSuchThing();
        mostOnThatDayOrAhead();
        mostOfNobodyAndOfAll();
        mostFirstRowOfRows();
        plansAreFromDay0On();
        sailsAheadOfThoseWhoArePut();
        soonestWithoutSuchThing();
        soonestOfNobodyAndOfOne();
        soonestLastOneFirst();
        soonestDaysLeastTogether();
        soonestFirstRowOfRows();
        planWithoutSuchThing();
        planFiguresAreRows();
        planOfNobody();
        planOfSix();
        planLatestDays();
        planVinegarTillAllHave();
        waitsWithoutSuchThing();
        waitsOfOneInNoRow();
        waitsFromTheHoldTo0();
        boatWithin1To60();
        boatWithoutSuchThing();
        boatNowAndAtTheEnd();
        boatOfNobody();
        boatThatTakesMostIsTheFirst();
        boatTakesWhoIsInRowsNow();
        boatNearTheLastDay();
        due.end();
    }

    /** Day 4: 0 is gone, 1 has 4 days in row 0, 2 is in no row, 3 is to come. */
    private static SmokedLetters used() {
        SmokedLetters x = Due.told("q3;r2;b2;t0 5;t0 2;t0 1;t5 0;k6 3 4;");
        x.puts(0, 0);
        x.puts(1, 0);
        Due.days(x, 4);
        x.sails(0);
        x.keep(1);
        Due.write(x, 3, 1);
        x.type('q');
        return x;
    }

    private static void asks(String name, ToLongFunction<SmokedLetters> call, int want) {
        due.changesNothing(name, PlansBoundsTest::used, call, want);
    }

    private static void mostByADay0To200() {
        asks("12: by day -1", x -> x.most(-1, NONE), BAD);
        asks("12: by day 0", x -> x.most(0, NONE), 0);
        asks("12: by day 200", x -> x.most(200, NONE), 4);
        asks("12: by day 201", x -> x.most(201, NONE), BAD);
        asks("12: by the least day", x -> x.most(LEAST, NONE), BAD);
        asks("12: by the greatest day", x -> x.most(GREATEST, NONE), BAD);
        asks("12: by NONE", x -> x.most(NONE, NONE), BAD);
    }

    private static void mostWithoutSuchThing() {
        for (int t : NOBODY) {
            asks("12: no TRAVELLER " + t, x -> x.most(10, t), BAD);
        }
        asks("12: the first one", x -> x.most(4, 0), 0);
        asks("12: the last one", x -> x.most(4, 3), 0);
        asks("12: no DAY, and no TRAVELLER", x -> x.most(201, 4), BAD);
    }

    private static void mostOnThatDayOrAhead() {
        SmokedLetters x = Due.told("q5;b4;t2 0;");
        due.is("12: a day ahead", x.most(7, NONE), 0);
        due.is("12: on that DAY", x.most(8, NONE), 1);
        due.is("12: behind it", x.most(9, NONE), 1);
        Due.tell(x, "q40;b9;t40 0;");
        due.is("12: a day ahead of 81", x.most(80, NONE), 0);
        due.is("12: on DAY 81", x.most(81, NONE), 1);
    }

    private static void mostOfNobodyAndOfAll() {
        SmokedLetters x = new SmokedLetters();
        due.is("12: nobody, day 0", x.most(0, NONE), 0);
        due.is("12: nobody, day 200", x.most(200, NONE), 0);
        due.is("12: nobody's ROW", x.most(200, 0), BAD);
        Due.tell(x, "q1;r1;" + SIX);
        due.is("12: six in one ROW, day 0", x.most(0, NONE), 0);
        due.is("12: six in one ROW, day 1", x.most(1, NONE), 6);
        due.is("12: one ROW", x.most(1, 5), 0);
    }

    private static void mostFirstRowOfRows() {
        SmokedLetters x = Due.told("q5;r3;t0 0;t1 0;t2 0;t3 0;");
        rowsAre("12: all plans are alike", x, 4, 0, 0, 0, 0);
        rowsAre("12: all plans are alike, all sail", x, 200, 0, 0, 0, 0);
        rowsAre("12: one of four", x, 5, 0, 1, 1, 1);
        rowsAre("12: two of four", x, 6, 0, 0, 1, 1);
        rowsAre("12: three of four", x, 7, 0, 0, 0, 1);
        due.is("12: how many by 7", x.most(7, NONE), 3);
        Due.tell(x, "q5;r2;t3 0;t0 0;t1 0;t2 0;");
        rowsAre("12: by TRAVELLERS' numbers, not by days", x, 5, 0, 1, 0, 0);
    }

    private static void rowsAre(String name, SmokedLetters x, int n, int... rows) {
        for (int t = 0; t < rows.length; t++) {
            due.is(name + ", ROW of " + t, x.most(n, t), rows[t]);
        }
    }

    private static void plansAreFromDay0On() {
        SmokedLetters fresh = Due.told("q3;r2;b2;t0 5;t0 2;t0 1;t5 0;k6 3 4;");
        for (int n = 0; n <= 12; n++) {
            due.is("PLANS from DAY 0 on, nobody PUT: most by " + n, used().most(n, NONE), fresh.most(n, NONE));
        }
        due.is("PLANS from DAY 0 on: soonest", used().soonest(NONE), fresh.soonest(NONE));
        due.is("PLANS from DAY 0 on: plan", used().plan(1010, NONE), fresh.plan(1010, NONE));
        due.is("PLANS from DAY 0 on: a day of one who is GONE", used().plan(1010, 0), 4);
        SmokedLetters last = used();
        Due.days(last, 196);
        due.is("PLANS on DAY 200", last.soonest(NONE), fresh.soonest(NONE));
    }

    private static void sailsAheadOfThoseWhoArePut() {
        SmokedLetters x = Due.told("q4;r1;t0 0;t4 0;");
        due.is("PLANS: PUT on the DAY he SAILS", x.plan(0, 0), 4);
        due.is("PLANS: VINEGAR of that", x.plan(0, NONE), 8);
        Due.tell(x, "q4;r1;t0 0;t3 0;");
        due.is("PLANS: PUT on the day ahead", x.plan(0, 0), 7);
        Due.tell(x, "q4;r1;b5;t0 0;t4 0;");
        due.is("PLANS: PUT ahead of the BOAT", x.plan(0, 0), 10);
        Due.tell(x, "q4;r1;b5;t0 0;t5 0;");
        due.is("PLANS: PUT on the BOAT's day", x.plan(0, 0), 5);
        Due.tell(x, "q4;r1;t3 0;t3 0;t0 0;");
        due.is("PLANS: two who COME on one DAY", x.plan(0, 0) * 100 + x.plan(0, 1), 707);
    }

    private static void soonestWithoutSuchThing() {
        for (int t : NOBODY) {
            asks("13: no TRAVELLER " + t, x -> x.soonest(t), BAD);
        }
        asks("13: the DAY", x -> x.soonest(NONE), 8);
        asks("13: the first one", x -> x.soonest(0), 0);
        asks("13: the last one", x -> x.soonest(3), 0);
    }

    private static void soonestOfNobodyAndOfOne() {
        SmokedLetters x = new SmokedLetters();
        due.is("13: nobody: 0", x.soonest(NONE), 0);
        due.is("13: nobody's ROW", x.soonest(0), BAD);
        Due.tell(x, "q1;r1;t0 0;");
        due.is("13: the least", x.soonest(NONE), 1);
        Due.tell(x, "q40;b7;r3;t40 0;");
        due.is("13: the greatest", x.soonest(NONE), 84);
        due.is("13: one, the first ROW", x.soonest(0), 0);
        Due.tell(x, "q40;b7;r1;t40 0;t40 0;t40 0;t40 0;t40 0;t40 0;");
        due.is("13: the greatest, of six", x.soonest(NONE), 84);
    }

    private static void soonestLastOneFirst() {
        SmokedLetters x = Due.told("q5;r2;b3;t0 0;t2 0;");
        due.is("13: the last one SAILS, BOATS by threes", x.soonest(NONE), 9);
        Due.tell(x, "q5;r1;b3;t0 0;t4 0;t8 0;");
        due.is("13: one ROW", x.soonest(NONE), 15);
    }

    private static void soonestDaysLeastTogether() {
        SmokedLetters x = Due.told("q5;r2;t0 0;t3 0;t8 0;");
        int[] rows = {0, 1, 0};
        for (int t = 0; t < 3; t++) {
            due.is("13: least together, ROW of " + t, x.soonest(t), rows[t]);
        }
        // Most by day 10 would put 2 behind 0 as well; together the days are less if 1 isn't held.
        Due.tell(x, "q5;r2;t0 0;t4 0;t6 0;");
        int[] less = {0, 1, 0};
        for (int t = 0; t < 3; t++) {
            due.is("13: least together, of three plans, ROW of " + t, x.soonest(t), less[t]);
        }
        due.is("13: the last one", x.soonest(NONE), 11);
    }

    private static void soonestFirstRowOfRows() {
        SmokedLetters x = Due.told("r3;" + SIX);
        for (int t = 0; t < 6; t++) {
            due.is("13: all plans are alike, ROW of " + t, x.soonest(t), 0);
        }
        Due.tell(x, "q5;r3;t2 0;t1 0;t0 0;");
        for (int t = 0; t < 3; t++) {
            due.is("13: one each, by numbers, ROW of " + t, x.soonest(t), t);
        }
    }

    private static void planWithoutSuchThing() {
        for (int t : NOBODY) {
            asks("14: no TRAVELLER " + t, x -> x.plan(0, t), BAD);
        }
        // Three for four days, 3 alone for three.
        asks("14: VINEGAR", x -> x.plan(0, NONE), 8 + 3);
        asks("14: the first one", x -> x.plan(0, 0), 4);
        asks("14: the last one", x -> x.plan(0, 3), 8);
        asks("14: no plan, and no TRAVELLER", x -> x.plan(-1, 4), BAD);
    }

    private static void planFiguresAreRows() {
        for (int rows = 1; rows <= 3; rows++) {
            SmokedLetters x = Due.told("r" + rows + ";t0 0;t0 0;t0 0;");
            for (int place = 1; place <= 100; place *= 10) {
                due.is("14: the last ROW of " + rows, x.plan((rows - 1) * place, 0), 10);
                for (int figure = rows; figure <= 9; figure++) {
                    due.is("14: no ROW " + figure + " of " + rows, x.plan(figure * place, 0), BAD);
                }
            }
            due.is("14: a figure more", x.plan(1000, 0), BAD);
        }
        int[] wrong = {LEAST, -1111, -10, -1, 10000, 20000, 100000, 1000000, 1000000000, GREATEST};
        for (int figures : wrong) {
            asks("14: no plan " + figures, x -> x.plan(figures, NONE), BAD);
        }
        asks("14: TRAVELLER 0's the lowest", x -> x.plan(1, 0), 4);
        asks("14: TRAVELLER 3's the highest", x -> x.plan(1000, 3), 8);
        // Together they are held by 1, who comes on day 1; apart 0 is not.
        SmokedLetters held = Due.told("q3;t0 0;t1 0;t2 0;");
        due.is("14: 0 alone", held.plan(1, 0), 3);
        due.is("14: 0 with 2", held.plan(10, 0), 5);
        due.is("14: 0 with 1", held.plan(100, 0), 4);
    }

    private static void planOfNobody() {
        SmokedLetters x = new SmokedLetters();
        due.is("14: nobody, VINEGAR", x.plan(0, NONE), 0);
        due.is("14: nobody, a figure", x.plan(1, NONE), BAD);
        due.is("14: nobody, a figure further on", x.plan(10, NONE), BAD);
        due.is("14: nobody's DAY", x.plan(0, 0), BAD);
    }

    private static void planOfSix() {
        SmokedLetters x = Due.told("q1;r3;" + SIX);
        due.is("14: six, all in ROW 2", x.plan(222222, NONE), 4);
        due.is("14: six, two each", x.plan(221100, NONE), 6);
        due.is("14: six, three each", x.plan(2020, NONE), 1 + 2 + 1 + 1);
        due.is("14: six, the sixth is no ROW", x.plan(322222, NONE), BAD);
        due.is("14: six, a seventh figure", x.plan(1000000, NONE), BAD);
        due.is("14: six, many figures", x.plan(2111111111, NONE), BAD);
    }

    private static void planLatestDays() {
        SmokedLetters x = Due.told("q40;b7;r1;t40 0;t0 0;");
        due.is("14: the latest BOAT", x.plan(0, 0), 84);
        due.is("14: on the day he comes, with a BOAT ahead", x.plan(0, 1), 84);
        Due.tell(x, "q1;b1;r1;t0 0;");
        due.is("14: the first DAY", x.plan(0, 0), 1);
        due.is("14: the least VINEGAR", x.plan(0, NONE), 1);
    }

    private static void planVinegarTillAllHave() {
        SmokedLetters x = Due.told("q2;r2;b3;t0 0;t5 0;");
        // 0 is there on days 0 to 3, 1 on days 5 to 9; on day 4 nobody is.
        due.is("14: VINEGAR, a day between with nobody", x.plan(0, NONE), 3 + 4);
        due.is("14: VINEGAR, two ROWS", x.plan(10, NONE), 3 + 4);
        Due.tell(x, "q2;r2;b3;t0 0;t1 0;");
        due.is("14: VINEGAR, two in a ROW", x.plan(0, NONE), 1 + 2 * 2);
        due.is("14: VINEGAR, one each", x.plan(10, NONE), 3 + 2);
        // One for two days, two for two, three for one, four till day 10.
        Due.tell(x, "q4;r1;b5;t0 0;t2 0;t4 0;t5 0;");
        due.is("14: VINEGAR, one behind another", x.plan(0, NONE), 2 * 1 + 2 * 2 + 1 * 2 + 5 * 3);
        Due.tell(x, "q2;r1;t9 0;t3 0;t4 0;t10 0;");
        due.is("14: VINEGAR, two and two, a gap between", x.plan(0, NONE), 1 + 2 * 2 + 1 + 2 * 2);
    }

    private static void waitsWithoutSuchThing() {
        for (int t : NOBODY) {
            asks("15: no TRAVELLER " + t, x -> x.waits(t), BAD);
        }
        asks("15: NONE is no TRAVELLER", x -> x.waits(NONE), BAD);
        asks("15: 0 days", x -> x.waits(1), 0);
    }

    private static void waitsOfOneInNoRow() {
        asks("15: GONE", x -> x.waits(0), STATE);
        asks("15: in no ROW", x -> x.waits(2), STATE);
        asks("15: to come", x -> x.waits(3), STATE);
    }

    private static void waitsFromTheHoldTo0() {
        for (int hold : new int[] {1, 2, 40}) {
            SmokedLetters x = Due.told("q" + hold + ";b9;t0 0;t0 0;");
            x.puts(0, 1);
            for (int left = hold; left > 0; left--) {
                due.is("15: days yet of " + hold, x.waits(0), left);
                x.day();
            }
            due.is("15: he may LEAVE", x.waits(0), 0);
            Due.days(x, 3);
            due.is("15: not below 0", x.waits(0), 0);
            x.puts(1, 1);
            due.is("15: a newcomer", x.waits(0), hold);
        }
    }

    private static void boatWithin1To60() {
        for (int n : new int[] {LEAST, -60, -1, 0, 61, 200, GREATEST}) {
            asks("16: within " + n, x -> x.boat(n, 0), BAD);
            asks("16: within " + n + ", how many", x -> x.boat(n, 1), BAD);
        }
        asks("16: within 1", x -> x.boat(1, 0), 4);
        asks("16: within 60", x -> x.boat(60, 0), 4);
    }

    private static void boatWithoutSuchThing() {
        for (int what : new int[] {LEAST, NONE, -1, 2, GREATEST}) {
            asks("16: what " + what, x -> x.boat(1, what), BAD);
        }
        asks("16: the DAY", x -> x.boat(2, 0), 4);
        asks("16: how many", x -> x.boat(2, 1), 1);
        asks("16: both", x -> x.boat(61, 2), BAD);
    }

    private static void boatNowAndAtTheEnd() {
        SmokedLetters x = Due.told("q40;b9;t0 0;");
        x.puts(0, 0);
        due.is("16: a day short", x.boat(44, 0), NONE);
        due.is("16: a day short, how many", x.boat(44, 1), NONE);
        due.is("16: at the end", x.boat(45, 0), 45);
        due.is("16: at the end, how many", x.boat(45, 1), 1);
        due.is("16: within 60", x.boat(60, 0), 45);
        Due.days(x, 44);
        due.is("16: tomorrow", x.boat(1, 0), 45);
        x.day();
        due.is("16: NOW", x.boat(1, 0), 45);
        x.day();
        due.is("16: one day late", x.boat(7, 0), NONE);
        due.is("16: the one behind it", x.boat(8, 0), 54);
        SmokedLetters hold = Due.told("q2;t0 0;");
        hold.puts(0, 0);
        due.is("16: he may not LEAVE by any", hold.boat(1, 0), NONE);
        due.is("16: THE HOLD ends within n", hold.boat(2, 0), 2);
    }

    private static void boatOfNobody() {
        SmokedLetters x = Due.told("q1;t0 0;");
        due.is("16: nobody in ROWS", x.boat(60, 0), NONE);
        due.is("16: nobody in ROWS, how many", x.boat(60, 1), NONE);
        x.puts(0, 0);
        x.day();
        x.sails(0);
        due.is("16: all are GONE", x.boat(60, 0), NONE);
    }

    private static void boatThatTakesMostIsTheFirst() {
        SmokedLetters x = Due.told("q3;r3;b2;" + SIX);
        x.puts(0, 0);
        x.puts(1, 0);
        x.day();
        x.puts(2, 1);
        x.day();
        x.puts(3, 2);
        due.is("16: the first ROW alone", x.boat(1, 0), NONE);
        due.is("16: two ROWS", x.boat(2, 0), 4);
        due.is("16: two ROWS, how many", x.boat(2, 1), 3);
        due.is("16: the later one takes no more yet", x.boat(3, 0), 4);
        due.is("16: all ROWS", x.boat(4, 0), 6);
        due.is("16: all ROWS, how many", x.boat(4, 1), 4);
        due.is("16: the first of those that take as many", x.boat(60, 0), 6);
    }

    private static void boatTakesWhoIsInRowsNow() {
        SmokedLetters x = Due.told("q2;r1;t0 0;t0 0;t1 0;");
        x.puts(0, 0);
        due.is("16: who is in ROWS NOW", x.boat(60, 1), 1);
        due.is("16: who comes later holds nobody up", x.boat(60, 0), 2);
        Due.tell(x, "q1;r1;" + SIX);
        for (int t = 0; t < 6; t++) {
            x.puts(t, 0);
        }
        due.is("16: six", x.boat(1, 1), 6);
    }

    /** The document names no end of n but 60; days beyond 200 count too (see NOTES.md). */
    private static void boatNearTheLastDay() {
        SmokedLetters x = Due.told("q5;b9;t0 0;");
        Due.days(x, 193);
        x.puts(0, 0);
        due.is("16: the last BOAT ahead of DAY 200", x.boat(5, 0), 198);
        Due.days(x, 7);
        due.is("16: no BOAT on DAY 200", x.boat(6, 0), NONE);
        due.is("16: one beyond it", x.boat(7, 0), 207);
    }
}
