/** For each promise of the document: ordinary inputs, edges, and wrong inputs. */
public final class PromisesTest {
    private static final int BAD = -1, STATE = -2, FULL = -3, NONE = -9, NO = -1000000;
    private static final int LEAST = Integer.MIN_VALUE, GREATEST = Integer.MAX_VALUE;
    private static final Due due = new Due();
    /** Three travellers, three clerks; a boat each second day. */
    private static final String SMALL = "q3;r2;b2;t0 5;t1 2;t4 10;k6 3 4;k16 4 5;k0 10 10;";

    public static void main(String[] args) {
        p01NewObject();
        p02Type();
        p03Clear();
        p04Island();
        p04Faults();
        p04ReadAnew();
        p05Traveller();
        p06Clerk();
        p07Now();
        p08Puts();
        p09Day();
        p10Sails();
        p11Undo();
        p12Most();
        p13Soonest();
        p14Plan();
        p15Waits();
        p16Boat();
        p17Clean();
        p18Well();
        p19Writes();
        p20Tears();
        p21Smokes();
        p22Word();
        p23Brown();
        p24Burn();
        p25Stood();
        p26Letters();
        p27Whose();
        p28Chain();
        p29Rate();
        p30Keep();
        p31Back();
        p32Count();
        p33Trace();
        due.end();
    }

    private static void p01NewObject() {
        SmokedLetters x = new SmokedLetters();
        int[] counts = {10, 2, 1, 0, 0, 0, 0, 0};
        for (int what = 0; what < 8; what++) {
            due.is("1: count " + what, x.count(what), counts[what]);
        }
        int[] nows = {0, 0, 0, 0, 1, 0};
        for (int what = 0; what < 6; what++) {
            due.is("1: now " + what, x.now(what), nows[what]);
        }
        due.is("1: trace", x.trace(), 0);
        due.is("1: no image", x.back(0), STATE);
        due.is("1: no traveller", x.traveller(0, 0), BAD);
        due.is("1: no clerk", x.clerk(0, 0), BAD);
    }

    private static void p02Type() {
        SmokedLetters x = new SmokedLetters();
        due.is("2: -1", x.type(-1), BAD);
        due.is("2: 256", x.type(256), BAD);
        due.is("2: least", x.type(LEAST), BAD);
        due.is("2: 0", x.type(0), 1);
        due.is("2: 255", x.type(255), 2);
        for (int i = 3; i <= 200; i++) {
            due.is("2: letter " + i, x.type(' '), i);
        }
        due.is("2: full", x.type(' '), FULL);
        due.is("2: bad ahead of full", x.type(256), BAD);
        due.is("2: stays", x.count(7), 200);
    }

    private static void p03Clear() {
        SmokedLetters x = new SmokedLetters();
        due.is("3: empty", x.clear(), 0);
        x.type('q');
        x.type('x');
        due.is("3: two", x.clear(), 2);
        due.is("3: none then", x.count(7), 0);
        due.is("3: begins anew", x.type('q'), 1);
    }

    private static void p04Island() {
        SmokedLetters x = new SmokedLetters();
        due.is("4: nothing", x.island(), 0);
        due.is("4: items", Due.tell(x, SMALL), 9);
        due.is("4: text is empty then", x.count(7), 0);
        due.is("4: hold", x.count(0), 3);
        due.is("4: rows", x.count(1), 2);
        due.is("4: boats", x.count(2), 2);
        due.is("4: travellers", x.count(3), 3);
        due.is("4: clerks", x.count(4), 3);
        due.is("4: blanks", Due.tell(x, "   b   9 ;t 40    10;  "), 2);
        due.is("4: as at first", x.count(0), 10);
        due.is("4: rows as at first", x.count(1), 2);
        due.is("4: boats told", x.count(2), 9);
        due.is("4: travellers told", x.count(3), 1);
        due.is("4: no clerk told", x.count(4), 0);
        due.is("4: blanks alone", Due.tell(x, "    "), 0);
        due.is("4: greatest", Due.tell(x, "q40;r3;b9;k1023 9 8;"), 4);
        due.is("4: least", Due.tell(x, "q1;r1;b1;k0 0 1;t0 0;"), 5);
        due.is("4: any order", Due.tell(x, "k1 10 10;t1 1;b2;t2 2;k2 1 2;q5;"), 6);
        due.is("4: six and four", Due.tell(x, "t0 0;t0 0;t0 0;t0 0;t0 0;t0 0;k0 1 2;k0 1 2;k0 1 2;k0 1 2;"), 10);
        StringBuilder full = new StringBuilder("q3;");
        while (full.length() < 200) {
            full.append(' ');
        }
        due.is("4: a full text", Due.tell(x, full.toString()), 1);
    }

    private static void fault(String text, int place) {
        SmokedLetters x = Due.told("q7;t3 4;k5 6 7;");
        x.day();
        due.is("4: fault of '" + text + "'", Due.tell(x, text), -10 - place);
        due.is("4: text stays", x.count(7), text.length());
        due.is("4: hold stays", x.count(0), 7);
        due.is("4: traveller stays", x.traveller(0, 0), 3);
        due.is("4: clerk stays", x.clerk(0, 1), 6);
        due.is("4: counts stay", x.count(3) * 10 + x.count(4), 11);
        due.is("4: day stays", x.now(0), 1);
        due.is("4: what may be undone stays", x.now(5), 1);
    }

    private static void p04Faults() {
        String[] first = {";", "x", "Q3;", "5;", "\u00e9", "\t", "-1;", "\u0000"};
        for (String text : first) {
            fault(text, 0);
            fault("  " + text, 2);
            fault("t0 0; " + text, 6);
        }
        String[] second = {"q0;", "q41;", "q01;", "q1024;", "q;", "qq", "r0;", "r4;", "b0;", "b10;", "q00;",
            "q99999999999999999999;", "q4294967301;", "q!", "t41 0;", "t;", "k1024 1 2;", "k00 1 2;", "k;"};
        for (String text : second) {
            fault(text, 1);
        }
        fault("q", 1);
        fault("q ", 2);
        fault("q 3", 3);
        fault("q 3  ", 5);
        fault("q3 4;", 3);
        fault("q3x", 2);
        fault("q3 05;", 3);
        fault("t3;", 2);
        fault("t3 11;", 3);
        fault("t3 01;", 3);
        fault("t3 4 5;", 5);
        fault("t3", 2);
        fault("k5 11 1;", 3);
        fault("k5 10 1;", 6);
        fault("k5 1 1;", 5);
        fault("k5 1 10;", 5);
        fault("k5 1 11;", 5);
        fault("k5 1;", 4);
        fault("k5 1 2", 6);
        fault("q3;q3;", 3);
        fault("q3;q", 3);
        fault("r1;r1;", 3);
        fault("b1;q3;b1;", 6);
        fault("t0 0;t0 0;t0 0;t0 0;t0 0;t0 0;t0 0;", 30);
        fault("k0 1 2;k0 1 2;k0 1 2;k0 1 2; k", 29);
        fault("q3;;", 3);
    }

    private static void p04ReadAnew() {
        SmokedLetters x = Due.told(SMALL);
        x.puts(0, 1);
        Due.days(x, 4);
        x.sails(0);
        Due.write(x, 1, 2);
        x.brown(0);
        x.keep(0);
        x.keep(1);
        x.puts(1, 0);
        due.is("4: anew", Due.tell(x, SMALL), 9);
        due.is("4: day", x.now(0), 0);
        due.is("4: vinegar", x.now(1), 0);
        due.is("4: nobody gone", x.now(3), 0);
        due.is("4: nothing to undo", x.now(5), 0);
        due.is("4: undo", x.undo(), STATE);
        due.is("4: no letter", x.count(5), 0);
        due.is("4: nothing brown", x.count(6), 0);
        due.is("4: image 0 gone", x.back(0), STATE);
        due.is("4: image 1 gone", x.back(1), STATE);
        due.is("4: in no row", x.traveller(0, 2), NONE);
        due.is("4: nor is who waited", x.traveller(1, 2), NONE);
        x.puts(0, 0);
        x.writes(4);
        due.is("4: no text tells that there is nothing", x.island(), 0);
        due.is("4: nobody", x.count(3), 0);
        due.is("4: no clerks", x.count(4), 0);
        due.is("4: the hold as at first", x.count(0), 10);
        due.is("4: no word", x.count(5), 0);
    }

    private static void p05Traveller() {
        SmokedLetters x = Due.told(SMALL);
        due.is("5: comes", x.traveller(2, 0), 4);
        due.is("5: chance", x.traveller(2, 1), 10);
        due.is("5: no row", x.traveller(0, 2), NONE);
        due.is("5: no days", x.traveller(0, 3), 0);
        due.is("5: not gone", x.traveller(0, 4), 0);
        x.puts(0, 1);
        due.is("5: row", x.traveller(0, 2), 1);
        Due.days(x, 2);
        due.is("5: days", x.traveller(0, 3), 2);
        x.puts(1, 1);
        due.is("5: days anew", x.traveller(0, 3), 0);
        Due.days(x, 4);
        due.is("5: days go on", x.traveller(1, 3), 4);
        x.sails(0);
        due.is("5: gone", x.traveller(0, 4), 1);
        due.is("5: gone, no row", x.traveller(0, 2), NONE);
        due.is("5: gone, no days", x.traveller(0, 3), 0);
        due.is("5: what -1", x.traveller(0, -1), BAD);
        due.is("5: what 5", x.traveller(0, 5), BAD);
        due.is("5: t 3", x.traveller(3, 0), BAD);
        due.is("5: t -1", x.traveller(-1, 0), BAD);
        due.is("5: t NONE", x.traveller(NONE, 0), BAD);
        due.is("5: t greatest", x.traveller(GREATEST, 0), BAD);
    }

    private static void p06Clerk() {
        SmokedLetters x = Due.told(SMALL);
        int[][] clerks = {{6, 3, 4}, {16, 4, 5}, {0, 10, 10}};
        for (int k = 0; k < 3; k++) {
            for (int what = 0; what < 3; what++) {
                due.is("6: clerk " + k + " " + what, x.clerk(k, what), clerks[k][what]);
            }
        }
        due.is("6: what 3", x.clerk(0, 3), BAD);
        due.is("6: what -1", x.clerk(0, -1), BAD);
        due.is("6: k 3", x.clerk(3, 0), BAD);
        due.is("6: k -1", x.clerk(-1, 0), BAD);
        due.is("6: k least", x.clerk(LEAST, 0), BAD);
    }

    private static void p07Now() {
        SmokedLetters x = Due.told("q2;r3;b3;t0 0;t0 0;t1 0;");
        due.is("7: boat on day 0", x.now(4), 1);
        x.puts(0, 0);
        x.puts(1, 2);
        x.day();
        due.is("7: day", x.now(0), 1);
        due.is("7: vinegar", x.now(1), 2);
        due.is("7: no boat", x.now(4), 0);
        due.is("7: nobody may leave", x.now(2), 0);
        x.day();
        due.is("7: may leave without a boat", x.now(2), 3);
        due.is("7: undo", x.now(5), 4);
        x.day();
        due.is("7: boat", x.now(4), 1);
        x.sails(1);
        due.is("7: gone", x.now(3), 2);
        due.is("7: who is gone may not leave", x.now(2), 1);
        due.is("7: -1", x.now(-1), BAD);
        due.is("7: 6", x.now(6), BAD);
    }

    private static void p08Puts() {
        SmokedLetters x = Due.told(SMALL);
        due.is("8: to come", x.puts(1, 0), STATE);
        due.is("8: row 2", x.puts(0, 2), BAD);
        due.is("8: row -1", x.puts(0, -1), BAD);
        due.is("8: t 3", x.puts(3, 0), BAD);
        due.is("8: t -1", x.puts(-1, 0), BAD);
        due.is("8: bad ahead of state", x.puts(1, 2), BAD);
        due.is("8: one", x.puts(0, 0), 1);
        due.is("8: in a row", x.puts(0, 1), STATE);
        due.is("8: in that row", x.puts(0, 0), STATE);
        x.day();
        due.is("8: on the day he comes", x.puts(1, 0), 2);
        due.is("8: refused calls are not known", x.now(5), 3);
        Due.days(x, 3);
        due.is("8: another row", x.puts(2, 1), 1);
        due.is("8: the other row is as it was", x.now(2), 3);
        x.sails(0);
        due.is("8: gone", x.puts(0, 0), STATE);
    }

    private static void p09Day() {
        SmokedLetters x = Due.told("q2;r3;t0 0;t0 0;t0 0;t0 0;t0 0;t1 0;");
        for (int t = 0; t < 5; t++) {
            x.puts(t, t < 3 ? 0 : 2);
        }
        due.is("9: nobody yet", x.day(), 0);
        due.is("9: vinegar by rows, and by twos", x.now(1), 4);
        x.puts(5, 2);
        due.is("9: row 0", x.day(), 7);
        due.is("9: vinegar again", x.now(1), 8);
        due.is("9: both", x.day(), 63);
        Due.days(x, 196);
        due.is("9: day 200", x.day(), 63);
        due.is("9: at 200", x.now(0), 200);
        int vinegar = x.now(1);
        due.is("9: no more", x.day(), STATE);
        due.is("9: no vinegar", x.now(1), vinegar);
        due.is("9: no days", x.traveller(0, 3), 200);
        x.undo();
        due.is("9: taken back", x.now(0), 199);
        SmokedLetters empty = new SmokedLetters();
        empty.day();
        due.is("9: empty rows take none", empty.now(1), 0);
    }

    private static void p10Sails() {
        SmokedLetters x = Due.told("q1;r1;b2;t0 0;t0 0;t0 0;");
        due.is("10: t 3", x.sails(3), BAD);
        due.is("10: t -1", x.sails(-1), BAD);
        due.is("10: in no row", x.sails(0), STATE);
        x.puts(0, 0);
        x.puts(1, 0);
        due.is("10: may not leave", x.sails(0), STATE);
        x.day();
        due.is("10: no boat", x.sails(0), STATE);
        x.day();
        due.is("10: in no row, on a boat's day", x.sails(2), STATE);
        due.is("10: one", x.sails(1), 1);
        due.is("10: again", x.sails(1), STATE);
        due.is("10: two", x.sails(0), 2);
        x.day();
        due.is("10: no vinegar for who is gone", x.now(1), 4);
        x.puts(2, 0);
        due.is("10: alone", x.traveller(2, 2), 0);
        Due.days(x, 3);
        due.is("10: three", x.sails(2), 3);
    }

    private static void p11Undo() {
        SmokedLetters x = Due.told(SMALL);
        due.is("11: none", x.undo(), STATE);
        x.puts(0, 0);
        x.day();
        x.puts(1, 0);
        due.is("11: puts", x.undo(), 2);
        due.is("11: not in a row", x.traveller(1, 2), NONE);
        due.is("11: days are back", x.traveller(0, 3), 1);
        due.is("11: day", x.undo(), 1);
        due.is("11: day 0", x.now(0), 0);
        due.is("11: vinegar back", x.now(1), 0);
        Due.days(x, 4);
        x.sails(0);
        due.is("11: sails", x.undo(), 5);
        due.is("11: not gone", x.now(3), 0);
        due.is("11: in his row", x.traveller(0, 2), 0);
        due.is("11: his days", x.traveller(0, 3), 4);
        Due.write(x, 3, 1);
        x.smokes(0);
        x.tears();
        due.is("11: tears", x.undo(), 8);
        due.is("11: letter back", x.count(5), 2);
        due.is("11: smokes", x.undo(), 7);
        due.is("11: word back", x.word(1), 1);
        due.is("11: writes", x.undo(), 6);
        due.is("11: one word", x.count(5), 1);
        for (int i = 0; i < 20; i++) {
            x.day();
        }
        due.is("11: ten are known", x.now(5), 10);
        x.brown(0);
        due.is("11: brown is not taken back", x.undo(), 9);
        due.is("11: brown stays", x.count(6), 1);
        for (int i = 8; i >= 0; i--) {
            due.is("11: more", x.undo(), i);
        }
        due.is("11: older ones are lost", x.undo(), STATE);
        due.is("11: the day", x.now(0), 14);
    }

    private static void p12Most() {
        SmokedLetters x = new SmokedLetters();
        due.is("12: nobody", x.most(0, NONE), 0);
        due.is("12: no traveller", x.most(0, 0), BAD);
        Due.tell(x, "q40;r3;b9;t40 0;t40 10;t39 1;t0 9;t20 5;t1 5;");
        due.is("12: -1", x.most(-1, NONE), BAD);
        due.is("12: 201", x.most(201, NONE), BAD);
        due.is("12: t 6", x.most(0, 6), BAD);
        due.is("12: t -1", x.most(0, -1), BAD);
        due.is("12: 44", x.most(44, NONE), 0);
        due.is("12: 45", x.most(45, NONE), 2);
        int[] by45 = {0, 0, 0, 1, 0, 1};
        due.is("12: 62", x.most(62, NONE), 2);
        due.is("12: 63", x.most(63, NONE), 3);
        int[] by63 = {0, 0, 0, 1, 1, 1};
        due.is("12: 81", x.most(81, NONE), 6);
        due.is("12: 200", x.most(200, NONE), 6);
        for (int t = 0; t < 6; t++) {
            due.is("12: row by 45 of " + t, x.most(45, t), by45[t]);
            due.is("12: row by 63 of " + t, x.most(63, t), by63[t]);
            due.is("12: row by 200 of " + t, x.most(200, t), 0);
            due.is("12: row by 0 of " + t, x.most(0, t), 0);
        }
        x.soonest(NONE);
        due.is("12: behind soonest()", x.most(63, NONE), 3);
        due.is("12: nothing changes", x.now(5), 0);
        Due.tell(x, "q2;r2;t0 0;t2 0;");
        due.is("12: sails ahead of who comes that day", x.most(2, NONE), 1);
        due.is("12: so both may have one row", x.most(4, 1), 0);
    }

    private static void p13Soonest() {
        SmokedLetters x = new SmokedLetters();
        due.is("13: nobody", x.soonest(NONE), 0);
        due.is("13: no traveller", x.soonest(0), BAD);
        Due.tell(x, SMALL);
        due.is("13: the day", x.soonest(NONE), 8);
        due.is("13: t 3", x.soonest(3), BAD);
        due.is("13: t -1", x.soonest(-1), BAD);
        // All end on day 13 in any plan; the days together are least if 0 isn't held up.
        Due.tell(x, "q5;r2;t0 0;t3 0;t8 0;");
        due.is("13: last one", x.soonest(NONE), 13);
        due.is("13: row of 0", x.soonest(0), 0);
        due.is("13: row of 1", x.soonest(1), 1);
        due.is("13: row of 2", x.soonest(2), 0);
        Due.tell(x, "q5;r1;t0 0;t4 0;");
        due.is("13: one row", x.soonest(NONE), 9);
        Due.tell(x, "q5;b9;r3;t4 0;");
        due.is("13: the first boat", x.soonest(NONE), 9);
    }

    private static void p14Plan() {
        SmokedLetters x = new SmokedLetters();
        due.is("14: nobody", x.plan(0, NONE), 0);
        due.is("14: a figure too many", x.plan(1, NONE), BAD);
        due.is("14: no traveller", x.plan(0, 0), BAD);
        Due.tell(x, SMALL);
        due.is("14: all in 0", x.plan(0, NONE), 11);
        due.is("14: traveller 0 alone", x.plan(1, NONE), 4 + 3 + 4);
        due.is("14: 0 on a boat's day", x.plan(1, 0), 4);
        due.is("14: 1 of 10", x.plan(10, 1), 4);
        due.is("14: 2", x.plan(0, 2), 8);
        due.is("14: no row 2", x.plan(2, NONE), BAD);
        due.is("14: no row 9", x.plan(900, 0), BAD);
        due.is("14: four figures", x.plan(1000, 0), BAD);
        due.is("14: many zeros ahead", x.plan(1000000000, 0), BAD);
        due.is("14: below 0", x.plan(-1, NONE), BAD);
        due.is("14: least", x.plan(LEAST, NONE), BAD);
        due.is("14: greatest", x.plan(GREATEST, NONE), BAD);
        due.is("14: t 3", x.plan(0, 3), BAD);
        due.is("14: t -1", x.plan(0, -1), BAD);
        // Held up by 1 and 2; all three leave on one day.
        Due.tell(x, "q5;r1;t0 0;t4 0;t8 0;");
        due.is("14: held up", x.plan(0, 0), 13);
        due.is("14: vinegar of a full row", x.plan(0, NONE), 4 + 8 + 10);
        Due.days(x, 3);
        due.is("14: from day 0 on", x.plan(0, NONE), 22);
        Due.tell(x, "q40;r3;b9;t40 0;t40 10;t39 1;t0 9;t20 5;t1 5;");
        due.is("14: six", x.plan(222222, NONE), 244);
        due.is("14: six of 2", x.plan(210012, 2), 81);
        due.is("14: 3 is no row", x.plan(300000, 0), BAD);
    }

    private static void p15Waits() {
        SmokedLetters x = Due.told(SMALL);
        due.is("15: no row", x.waits(0), STATE);
        due.is("15: t 3", x.waits(3), BAD);
        due.is("15: t -1", x.waits(-1), BAD);
        x.puts(0, 1);
        due.is("15: all days", x.waits(0), 3);
        x.day();
        due.is("15: two", x.waits(0), 2);
        x.puts(1, 1);
        due.is("15: anew", x.waits(0), 3);
        Due.days(x, 3);
        due.is("15: none", x.waits(0), 0);
        Due.days(x, 2);
        due.is("15: not below 0", x.waits(0), 0);
        x.sails(0);
        due.is("15: gone", x.waits(0), STATE);
    }

    private static void p16Boat() {
        SmokedLetters x = Due.told("q3;r3;b2;t0 0;t0 0;t2 0;t2 0;");
        due.is("16: nobody", x.boat(60, 0), NONE);
        due.is("16: 0", x.boat(0, 0), BAD);
        due.is("16: 61", x.boat(61, 0), BAD);
        due.is("16: what 2", x.boat(1, 2), BAD);
        due.is("16: what -1", x.boat(1, -1), BAD);
        due.is("16: greatest", x.boat(GREATEST, 0), BAD);
        x.puts(0, 0);
        x.puts(1, 0);
        due.is("16: too soon", x.boat(3, 0), NONE);
        due.is("16: too soon, how many", x.boat(3, 1), NONE);
        due.is("16: the end of n", x.boat(4, 0), 4);
        due.is("16: how many", x.boat(4, 1), 2);
        Due.days(x, 2);
        x.puts(2, 1);
        due.is("16: few", x.boat(3, 0), 4);
        due.is("16: most", x.boat(4, 0), 6);
        due.is("16: most, how many", x.boat(4, 1), 3);
        due.is("16: the first of them", x.boat(60, 0), 6);
        Due.days(x, 4);
        due.is("16: today", x.boat(1, 0), 6);
        due.is("16: today, how many", x.boat(1, 1), 3);
        x.day();
        due.is("16: tomorrow", x.boat(9, 0), 8);
        due.is("16: nothing changes", x.now(0), 7);
        Due.tell(x, "q2;b5;t0 0;");
        Due.days(x, 3);
        x.puts(0, 0);
        due.is("16: one", x.boat(2, 1), 1);
        due.is("16: one, on day 5", x.boat(2, 0), 5);
        due.is("16: not within 1", x.boat(1, 0), NONE);
    }

    private static void p17Clean() {
        SmokedLetters x = Due.told("q3;r3;t0 5;t0 2;t0 10;t0 0;t0 3;t0 7;");
        due.is("17: nobody", x.clean(0, 0), 1);
        due.is("17: nobody, lower", x.clean(0, 1), 1);
        x.puts(0, 0);
        x.puts(1, 0);
        due.is("17: upper", x.clean(0, 0), 2);
        due.is("17: lower", x.clean(0, 1), 5);
        x.puts(2, 1);
        due.is("17: none", x.clean(1, 0), 0);
        due.is("17: none, lower", x.clean(1, 1), 1);
        x.puts(3, 2);
        due.is("17: sure", x.clean(2, 0), 1);
        x.puts(4, 2);
        x.puts(5, 2);
        due.is("17: 21 of 100", x.clean(2, 0), 21);
        due.is("17: 21 of 100, lower", x.clean(2, 1), 100);
        due.is("17: row 3", x.clean(3, 0), BAD);
        due.is("17: row -1", x.clean(-1, 0), BAD);
        due.is("17: what 2", x.clean(0, 2), BAD);
        due.is("17: what -1", x.clean(0, -1), BAD);
        Due.days(x, 3);
        x.sails(0);
        due.is("17: who is gone doesn't count", x.clean(0, 0), 4);
    }

    private static void p18Well() {
        SmokedLetters x = Due.told("q3;t0 5;t0 2;t9 1;");
        // Weights of just one sick: 5*8*9, 5*2*9, 5*8*1.
        due.is("18: upper", x.well(0, 1, 0), 13);
        due.is("18: lower", x.well(0, 1, 1), 49);
        due.is("18: of 1", x.well(1, 1, 0), 40);
        due.is("18: of 1, lower", x.well(1, 1, 1), 49);
        due.is("18: none is", x.well(0, 0, 0), 1);
        due.is("18: none is, lower", x.well(0, 0, 1), 1);
        due.is("18: all are", x.well(2, 3, 0), 0);
        due.is("18: all are, lower", x.well(2, 3, 1), 1);
        due.is("18: can't be", x.well(0, 4, 0), NONE);
        due.is("18: six can't be", x.well(0, 6, 1), NONE);
        due.is("18: k 7", x.well(0, 7, 0), BAD);
        due.is("18: k -1", x.well(0, -1, 0), BAD);
        due.is("18: t 3", x.well(3, 0, 0), BAD);
        due.is("18: t -1", x.well(-1, 0, 0), BAD);
        due.is("18: what 2", x.well(0, 0, 2), BAD);
        due.is("18: what -1", x.well(0, 0, -1), BAD);
        Due.tell(x, "t0 10;t0 0;t0 5;");
        due.is("18: 0 is sick", x.well(1, 0, 0), NONE);
        due.is("18: 1 is well", x.well(2, 3, 0), NONE);
        due.is("18: then 2 is", x.well(2, 2, 0), 0);
        Due.tell(x, "t0 5;t0 5;");
        due.is("18: one of two", x.well(1, 1, 0), 1);
        due.is("18: one of two, lower", x.well(1, 1, 1), 2);
        Due.tell(x, "t0 5;t0 5;t0 5;t0 5;t0 5;t0 5;");
        due.is("18: six alike", x.well(5, 4, 0), 1);
        due.is("18: six alike, lower", x.well(5, 4, 1), 3);
        due.is("18: all six", x.well(5, 6, 0), 0);
    }

    private static void p19Writes() {
        SmokedLetters x = new SmokedLetters();
        due.is("19: 10", x.writes(10), BAD);
        due.is("19: -1", x.writes(-1), BAD);
        for (int i = 0; i < 5; i++) {
            due.is("19: word", x.writes(i == 4 ? 9 : i), i + 1);
        }
        due.is("19: full", x.writes(0), FULL);
        due.is("19: bad ahead of full", x.writes(10), BAD);
        due.is("19: known", x.now(5), 5);
        due.is("19: as they come", x.word(0) * 100 + x.word(1) * 10 + x.word(4), 19);
    }

    private static void p20Tears() {
        SmokedLetters x = new SmokedLetters();
        due.is("20: empty", x.tears(), 0);
        due.is("20: known too", x.now(5), 1);
        Due.write(x, 0, 0, 0);
        due.is("20: three", x.tears(), 3);
        due.is("20: none then", x.count(5), 0);
        due.is("20: anew", x.writes(1), 1);
    }

    private static void p21Smokes() {
        SmokedLetters x = Due.told("k6 3 4;k16 4 5;k0 10 10;k1023 10 10;");
        due.is("21: no letter", x.smokes(0), 0);
        due.is("21: known too", x.now(5), 1);
        Due.write(x, 3, 1, 4, 2, 9);
        due.is("21: k 4", x.smokes(4), BAD);
        due.is("21: k -1", x.smokes(-1), BAD);
        due.is("21: burns two", x.smokes(0), 2);
        due.is("21: mercy", x.word(0), 4);
        due.is("21: lost", x.word(1) + x.word(3), 20);
        due.is("21: stands", x.word(4), 9);
        due.is("21: who does nothing", x.smokes(2), 2);
        due.is("21: burns ahead of mercy", x.smokes(1), 4);
        due.is("21: all", x.smokes(3), 5);
        Due.tell(x, "k16 3 4;");
        Due.write(x, 3, 4);
        due.is("21: mercy's n isn't burnt", x.smokes(0), 1);
        due.is("21: n stands", x.word(0), 4);
        due.is("21: length stays", x.count(5), 2);
    }

    private static void p22Word() {
        SmokedLetters x = Due.told("k2 10 10;");
        due.is("22: no letter", x.word(0), BAD);
        Due.write(x, 0, 1, 9);
        due.is("22: 0", x.word(0), 0);
        due.is("22: 2", x.word(2), 9);
        due.is("22: 3", x.word(3), BAD);
        due.is("22: -1", x.word(-1), BAD);
        due.is("22: least", x.word(LEAST), BAD);
        x.smokes(0);
        due.is("22: lost", x.word(1), 10);
    }

    private static void p23Brown() {
        SmokedLetters x = Due.told(SMALL);
        due.is("23: k 3, no letter", x.brown(3), BAD);
        due.is("23: k -1", x.brown(-1), BAD);
        due.is("23: no letter", x.brown(0), STATE);
        Due.write(x, 1, 2);
        due.is("23: one", x.brown(0), 1);
        due.is("23: the same again", x.brown(0), 2);
        x.writes(3);
        due.is("23: longer", x.brown(0), STATE);
        x.undo();
        due.is("23: three", x.brown(1), 3);
        due.is("23: four", x.brown(2), 4);
        due.is("23: full", x.brown(2), FULL);
        due.is("23: bad ahead of full", x.brown(3), BAD);
        x.writes(3);
        due.is("23: state ahead of full", x.brown(2), STATE);
        x.tears();
        due.is("23: empty", x.brown(2), STATE);
        due.is("23: stay", x.count(6), 4);
    }

    private static void p24Burn() {
        SmokedLetters x = Due.told(SMALL);
        due.is("24: none", x.burn(), 0);
        x.writes(1);
        x.brown(0);
        x.brown(1);
        due.is("24: two", x.burn(), 2);
        due.is("24: none then", x.count(6), 0);
        due.is("24: no place", x.stood(0), BAD);
        x.writes(2);
        due.is("24: another length", x.brown(0), 1);
    }

    private static void p25Stood() {
        SmokedLetters x = Due.told(SMALL);
        due.is("25: nothing brown", x.stood(0), BAD);
        Due.write(x, 3, 1, 4);
        due.is("25: a letter is not brown", x.stood(0), BAD);
        x.smokes(0);
        x.brown(0);
        due.is("25: n, and m", x.stood(0), 1 << 3 | 1 << 4);
        due.is("25: burnt", x.stood(1), 6);
        due.is("25: 3", x.stood(3), BAD);
        due.is("25: -1", x.stood(-1), BAD);
        x.tears();
        Due.write(x, 3, 2, 7);
        x.brown(2);
        due.is("25: both copies", x.stood(0), 1 << 3);
        due.is("25: both copies, burnt", x.stood(1), 1 << 2);
        due.is("25: can't be", x.stood(2), 0);
        x.tears();
        due.is("25: places are the brown ones'", x.stood(1), 1 << 2);
        x.burn();
        x.writes(3);
        x.brown(0);
        due.is("25: he writes no 3", x.stood(0), 0);
    }

    private static void p26Letters() {
        SmokedLetters x = Due.told("k1023 0 9;k0 9 0;k6 3 4;k0 10 10;");
        due.is("26: nothing brown", x.letters(NONE), 0);
        due.is("26: no place", x.letters(0), BAD);
        Due.write(x, 0, 1, 2, 3, 4);
        x.smokes(0);
        x.brown(0);
        due.is("26: any letter", x.letters(NONE), 100000);
        due.is("26: not one alone", x.letters(4), -5);
        due.is("26: 5", x.letters(5), BAD);
        due.is("26: -1", x.letters(-1), BAD);
        x.burn();
        x.tears();
        Due.write(x, 4, 7);
        x.brown(2);
        due.is("26: two", x.letters(NONE), 2);
        due.is("26: 3 or 4", x.letters(0), -5);
        due.is("26: sure", x.letters(1), 7);
        x.brown(3);
        due.is("26: one", x.letters(NONE), 1);
        due.is("26: sure of 4", x.letters(0), 4);
        x.tears();
        Due.write(x, 4, 8);
        x.brown(1);
        due.is("26: none", x.letters(NONE), 0);
        due.is("26: NONE at a place", x.letters(1), NONE);
        due.is("26: NONE at each place", x.letters(0), NONE);
        due.is("26: bad ahead of NONE", x.letters(2), BAD);
        due.is("26: word by word", x.stood(0), 1 << 4);
    }

    private static void p27Whose() {
        SmokedLetters x = Due.told(SMALL);
        int[] wrong = {0, 1, 10, 21, 22, 25, 120, 131, -12, LEAST, GREATEST, 1771561,
            Due.number(0, 0, 0, 0, 0, 0), Due.number(1, 10), Due.number(10, 1), 2 * 161051};
        for (int letter : wrong) {
            due.is("27: " + letter, x.whose(letter), BAD);
        }
        due.is("27: no letter", x.whose(Due.number(3)), 0);
        due.is("27: the least number", x.whose(11), 0);
        Due.write(x, 3, 1, 4);
        due.is("27: as it is", x.whose(Due.number(3, 1, 4)), 1 << 2);
        x.smokes(0);
        due.is("27: clerk 0", x.whose(Due.number(3, 2, 4)), 1);
        due.is("27: another length", x.whose(Due.number(3, 2)), 0);
        due.is("27: a longer one", x.whose(Due.number(3, 2, 4, 4)), 0);
        x.tears();
        Due.write(x, 0, 0, 9, 9, 9);
        due.is("27: all three", x.whose(Due.number(0, 0, 9, 9, 9)), 7);
        due.is("27: five 9", x.whose(Due.number(9, 9, 9, 9, 9)), 0);
    }

    private static void p28Chain() {
        SmokedLetters x = Due.told("k0 1 2;k0 3 4;k0 2 3;k8 10 10;");
        due.is("28: no letter", x.chain(Due.number(1), -1), NONE);
        x.writes(4);
        due.is("28: none is needed", x.chain(Due.number(4), -1), 0);
        due.is("28: none is needed, 0", x.chain(Due.number(4), 0), -5);
        due.is("28: three", x.chain(Due.number(1), -1), 3);
        due.is("28: three, 0", x.chain(Due.number(1), 0), 0);
        due.is("28: three, 1", x.chain(Due.number(1), 1), 2);
        due.is("28: three, 2", x.chain(Due.number(1), 2), 1);
        due.is("28: not so many", x.chain(Due.number(1), 3), -5);
        due.is("28: not so many at all", x.chain(Due.number(1), GREATEST), -5);
        due.is("28: none do", x.chain(Due.number(5), -1), NONE);
        due.is("28: none do, 0", x.chain(Due.number(5), 0), NONE);
        due.is("28: another length", x.chain(Due.number(4, 4), -1), NONE);
        due.is("28: i -2", x.chain(Due.number(4), -2), BAD);
        due.is("28: i NONE", x.chain(Due.number(4), NONE), BAD);
        due.is("28: no letter's number", x.chain(1, -1), BAD);
        due.is("28: lost", x.chain(Due.number(10), 0), BAD);
        x.smokes(3);
        due.is("28: stands", x.word(0), 4);
        x.tears();
        x.writes(3);
        x.smokes(3);
        due.is("28: three and fire", x.chain(Due.number(1), -1), 3);
        due.is("28: three and fire, last", x.chain(Due.number(1), 2), 3);
        Due.tell(x, "k0 1 2;k0 5 6;k0 1 2;k0 5 6;");
        Due.write(x, 2, 6);
        due.is("28: two", x.chain(Due.number(1, 5), -1), 2);
        due.is("28: the first row", x.chain(Due.number(1, 5), 0), 0);
        due.is("28: the first row, 1", x.chain(Due.number(1, 5), 1), 1);
        Due.tell(x, "k0 4 5;k0 3 4;k0 2 3;k0 1 2;");
        x.writes(5);
        due.is("28: all four", x.chain(Due.number(1), -1), 4);
        for (int i = 0; i < 4; i++) {
            due.is("28: all four, " + i, x.chain(Due.number(1), i), 3 - i);
        }
        x.tears();
        Due.tell(x, "k0 1 2;k0 2 1;");
        x.writes(1);
        due.is("28: each once at most", x.chain(Due.number(1), -1), 0);
        due.is("28: the other one", x.chain(Due.number(2), 0), 1);
    }

    private static void p29Rate() {
        SmokedLetters x = Due.told("q1;t0 0;t0 0;k7 3 4;k1023 0 9;k0 10 10;");
        int[][] rates = {{3, 6, -1, 12, -1, 3}, {10, 10, 1, 20, 2, 10}, {0, 10, -10, 20, -8, 0}};
        for (int k = 0; k < 3; k++) {
            for (int kind = 0; kind < 6; kind++) {
                due.is("29: " + kind + " of " + k, x.rate(kind, k), rates[k][kind]);
            }
        }
        x.puts(0, 0);
        x.puts(1, 0);
        x.day();
        x.sails(0);
        due.is("29: one gone", x.rate(5, 0), 4);
        x.sails(1);
        due.is("29: two gone", x.rate(5, 0), 5);
        due.is("29: kind 6", x.rate(6, 0), NO);
        due.is("29: kind -1", x.rate(-1, 0), NO);
        due.is("29: k 3", x.rate(0, 3), NO);
        due.is("29: k -1", x.rate(0, -1), NO);
    }

    private static void p30Keep() {
        SmokedLetters x = Due.told(SMALL);
        due.is("30: 2", x.keep(2), BAD);
        due.is("30: -1", x.keep(-1), BAD);
        due.is("30: day 0", x.keep(0), 0);
        Due.days(x, 3);
        due.is("30: day 3", x.keep(1), 3);
        due.is("30: keep is not taken back", x.now(5), 3);
        due.is("30: 0 is as it was", x.back(0), 0);
        x.day();
        due.is("30: anew", x.keep(1), 1);
        x.day();
        due.is("30: the later one", x.back(1), 1);
    }

    private static void p31Back() {
        SmokedLetters x = Due.told(SMALL);
        due.is("31: 2", x.back(2), BAD);
        due.is("31: -1", x.back(-1), BAD);
        due.is("31: none", x.back(1), STATE);
        x.puts(0, 1);
        Due.days(x, 2);
        Due.write(x, 5, 6);
        x.keep(1);
        due.is("31: the other one", x.back(0), STATE);
        x.puts(1, 1);
        Due.days(x, 4);
        x.sails(0);
        x.tears();
        x.brown(0);
        x.writes(9);
        x.brown(0);
        due.is("31: day", x.back(1), 2);
        due.is("31: nothing can be undone", x.undo(), STATE);
        due.is("31: vinegar", x.now(1), 2);
        due.is("31: row", x.traveller(0, 2), 1);
        due.is("31: days", x.traveller(0, 3), 2);
        due.is("31: nobody gone", x.now(3), 0);
        due.is("31: 1 in no row", x.traveller(1, 2), NONE);
        due.is("31: letter", x.count(5) * 100 + x.word(0) * 10 + x.word(1), 256);
        due.is("31: brown stays", x.count(6), 1);
        x.day();
        due.is("31: again", x.back(1), 2);
    }

    private static void p32Count() {
        SmokedLetters x = Due.told("q9;r3;b4;t0 0;t0 0;k1 10 10;k1 10 10;k1 10 10;");
        Due.write(x, 1, 2);
        x.brown(0);
        x.type('q');
        int[] counts = {9, 3, 4, 2, 3, 2, 1, 1};
        for (int what = 0; what < 8; what++) {
            due.is("32: " + what, x.count(what), counts[what]);
        }
        due.is("32: 8", x.count(8), BAD);
        due.is("32: -1", x.count(-1), BAD);
        due.is("32: NONE", x.count(NONE), BAD);
    }

    private static void p33Trace() {
        long[] sums = {1, 11, 101, 1011, 10101, 100001};
        SmokedLetters x = Due.told(SMALL);
        long sum = 0;
        for (int kind = 0; kind < 6; kind++) {
            x.rate(kind, 0);
            sum += sums[kind];
            due.is("33: behind " + kind, x.trace(), sum);
        }
        x.rate(6, 0);
        x.rate(0, 3);
        due.is("33: refused", x.trace(), sum);
        x.keep(0);
        x.rate(0, 0);
        x.back(0);
        due.is("33: an image has it not", x.trace(), sum + 1);
        x.day();
        x.rate(0, 0);
        x.undo();
        due.is("33: it is not taken back", x.trace(), sum + 2);
        Due.tell(x, SMALL);
        due.is("33: it stays behind island()", x.trace(), sum + 2);
    }
}
