/** The bounds that the document names for a new object, the text, travellers, clerks and NOW. */
public final class IslandBoundsTest {
    private static final int BAD = -1, STATE = -2, FULL = -3, NONE = -9;
    private static final int LEAST = Integer.MIN_VALUE, GREATEST = Integer.MAX_VALUE;
    private static final Due due = new Due();

    public static void main(String[] args) {
        newObjectIsAsTold();
        newObjectHasNobody();
        object512Calls();
        letters0To255();
        textOf200Letters();
        clearTellsHowManyThereWere();
        holdOf1To40();
        holdIs10AtFirst();
        rowsOf1To3();
        rowsAre2AtFirst();
        boatsOf1To9();
        boatsAre1AtFirst();
        travellersComeOn0To40();
        chanceOf0To10();
        sixTravellersAtMost();
        clerksBurn0To1023();
        mercyOf0To9UnlikeOrBoth10();
        fourClerksAtMost();
        onceEachAtMost();
        blanksBetweenTokens();
        numbersUpTo1023();
        numbersWithA0Ahead();
        tokensThatCantStandThere();
        anyOtherLetter();
        textThatEndsTooEarly();
        firstOfTwoFaults();
        noTextAndMostItems();
        textStaysBehindAFault();
        textIsEmptyBehindIsland();
        readAnew();
        travellerBounds();
        travellerInNoRow();
        clerkBounds();
        nowBounds();
        due.end();
    }

    private static SmokedLetters used() {
        SmokedLetters x = Due.told("q7;r3;b2;t3 4;t0 1;k5 6 7;k9 10 10;");
        x.puts(1, 2);
        x.keep(0);
        x.day();
        Due.write(x, 1, 0);
        x.brown(1);
        x.smokes(0);
        x.rate(0, 0);
        return x;
    }

    private static SmokedLetters typed(String text) {
        SmokedLetters x = used();
        for (int i = 0; i < text.length(); i++) {
            x.type(text.charAt(i));
        }
        return x;
    }

    private static void fault(String sentence, String text, int place) {
        due.changesNothing(sentence + ": '" + text + "'", () -> typed(text), x -> x.island(), -10 - place);
    }

    private static void taken(String sentence, String text, int items) {
        due.is(sentence + ": '" + text + "'", typed(text).island(), items);
    }

    private static String repeated(String part, int times) {
        return part.repeat(times);
    }

    private static String filled(String text, int length) {
        return text + " ".repeat(length - text.length());
    }

    private static void newObjectIsAsTold() {
        SmokedLetters x = new SmokedLetters();
        int[] counts = {10, 2, 1, 0, 0, 0, 0, 0}, nows = {0, 0, 0, 0, 1, 0};
        for (int what = 0; what < counts.length; what++) {
            due.is("1: as told, count " + what, x.count(what), counts[what]);
        }
        for (int what = 0; what < nows.length; what++) {
            due.is("1: as told, now " + what, x.now(what), nows[what]);
        }
        due.is("1: THE TRACE, 0 at first", x.trace(), 0);
    }

    /** What is asked for ahead of anything being told. */
    private static void newObjectHasNobody() {
        SmokedLetters x = new SmokedLetters();
        due.is("1: nobody, traveller", x.traveller(0, 0), BAD);
        due.is("1: nobody, clerk", x.clerk(0, 0), BAD);
        due.is("1: nobody, puts", x.puts(0, 0), BAD);
        due.is("1: nobody, sails", x.sails(0), BAD);
        due.is("1: nobody, waits", x.waits(0), BAD);
        due.is("1: nobody, most", x.most(0, NONE), 0);
        due.is("1: nobody, most of 0", x.most(0, 0), BAD);
        due.is("1: nobody, soonest", x.soonest(NONE), 0);
        due.is("1: nobody, soonest of 0", x.soonest(0), BAD);
        due.is("1: nobody, plan", x.plan(0, NONE), 0);
        due.is("1: nobody, plan of 0", x.plan(0, 0), BAD);
        due.is("1: nobody, boat", x.boat(1, 0), NONE);
        due.is("1: nobody, clean", x.clean(1, 0), 1);
        due.is("1: nobody, well", x.well(0, 0, 0), BAD);
        due.is("1: no clerk smokes", x.smokes(0), BAD);
        due.is("1: no clerk's rate", x.rate(0, 0), -1000000);
        due.is("1: no clerk's copy", x.brown(0), BAD);
        due.is("1: no word", x.word(0), BAD);
        due.is("1: no place", x.stood(0), BAD);
        due.is("1: no letters", x.letters(NONE), 0);
        due.is("1: no place of letters", x.letters(0), BAD);
        due.is("1: whose", x.whose(11), 0);
        due.is("1: chain", x.chain(11, -1), NONE);
        due.is("1: nothing to undo", x.undo(), STATE);
        due.is("1: no image 0", x.back(0), STATE);
        due.is("1: no image 1", x.back(1), STATE);
        due.is("1: nothing brown", x.burn(), 0);
        due.is("1: no text", x.clear(), 0);
        due.is("1: nothing to tear", x.tears(), 0);
        due.is("1: no refused call is known, but tears() is", x.now(5), 1);
    }

    private static void object512Calls() {
        SmokedLetters x = new SmokedLetters();
        for (int i = 0; i < 510; i++) {
            x.tears();
        }
        due.is("an object is used for 512 calls: the 511th", x.undo(), 9);
        due.is("an object is used for 512 calls: the 512th", x.writes(9), 1);
    }

    private static void letters0To255() {
        for (int letter : new int[] {LEAST, -256, -1, 256, 257, GREATEST}) {
            due.changesNothing("2: a letter " + letter, IslandBoundsTest::used, x -> x.type(letter), BAD);
        }
        for (int letter : new int[] {0, 1, 32, 127, 128, 254, 255}) {
            due.is("2: a letter " + letter, used().type(letter), 1);
        }
    }

    private static void textOf200Letters() {
        SmokedLetters x = typed(filled("", 199));
        due.is("2: the 200th letter", x.type(';'), 200);
        String full = filled("q3;", 200);
        due.changesNothing("2: FULL", () -> typed(full), y -> y.type(' '), FULL);
        due.changesNothing("2: BAD ahead of FULL", () -> typed(full), y -> y.type(256), BAD);
        taken("2: a full text is read", full, 1);
        x = typed(full);
        x.clear();
        due.is("2: room behind clear()", x.type(' '), 1);
        x = typed(full);
        x.island();
        due.is("2: room behind island()", x.type(' '), 1);
    }

    private static void clearTellsHowManyThereWere() {
        due.changesNothing("3: an empty text", IslandBoundsTest::used, x -> x.clear(), 0);
        due.is("3: one letter", typed("q").clear(), 1);
        SmokedLetters x = typed(filled("", 200));
        due.is("3: a full text", x.clear(), 200);
        due.is("3: empty then", x.count(7), 0);
        due.is("3: and again", x.clear(), 0);
        due.holds("3: nothing else changes", Looks.behind(() -> typed("q"), y -> y.clear())
                .equals(Looks.behind(IslandBoundsTest::used, y -> 0)));
    }

    private static void holdOf1To40() {
        due.is("THE HOLD, 1", Due.told("q1;").count(0), 1);
        due.is("THE HOLD, 40", Due.told("q40;").count(0), 40);
        fault("THE HOLD, 0", "q0;", 1);
        fault("THE HOLD, 41", "q41;", 1);
        fault("THE HOLD, 400", "q 400;", 2);
    }

    private static void holdIs10AtFirst() {
        SmokedLetters x = Due.told("t0 0;");
        x.puts(0, 0);
        Due.days(x, 8);
        due.is("THE HOLD, 10 at first: 9 days", x.day(), 0);
        due.is("THE HOLD, 10 at first: 10 days", x.day(), 1);
        Due.tell(x, "q3;");
        Due.tell(x, "r1;");
        due.is("THE HOLD, 10 where a text tells none", x.count(0), 10);
    }

    private static void rowsOf1To3() {
        for (int rows = 1; rows <= 3; rows++) {
            SmokedLetters x = Due.told("t0 0;t0 0;r" + rows + ";");
            due.is("ROWS, " + rows, x.count(1), rows);
            due.is("ROWS 0 .. n - 1, the last one", x.puts(0, rows - 1), 1);
            due.is("ROWS 0 .. n - 1, beyond", x.puts(1, rows), BAD);
        }
        fault("ROWS, 0", "r0;", 1);
        fault("ROWS, 4", "r4;", 1);
    }

    private static void rowsAre2AtFirst() {
        SmokedLetters x = new SmokedLetters();
        due.is("ROWS, 2 at first: row 1", x.clean(1, 0), 1);
        due.is("ROWS, 2 at first: row 2", x.clean(2, 0), BAD);
        Due.tell(x, "r3;");
        Due.tell(x, "q3;");
        due.is("ROWS, 2 where a text tells none", x.count(1), 2);
    }

    private static void boatsOf1To9() {
        for (int boats = 1; boats <= 9; boats++) {
            SmokedLetters x = Due.told("b" + boats + ";");
            due.is("BOATS, " + boats, x.count(2), boats);
            for (int date = 0; date <= 2 * boats + 1; date++) {
                boolean multiple = date == 0 || date == boats || date == 2 * boats || boats == 1;
                due.is("BOATS, each " + boats + " days, day " + date, x.now(4), multiple ? 1 : 0);
                x.day();
            }
        }
        fault("BOATS, 0", "b0;", 1);
        fault("BOATS, 10", "b10;", 1);
    }

    private static void boatsAre1AtFirst() {
        SmokedLetters x = new SmokedLetters();
        x.day();
        due.is("BOATS, 1 at first", x.now(4), 1);
        Due.tell(x, "b9;");
        Due.tell(x, "q3;");
        due.is("BOATS, 1 where a text tells none", x.count(2), 1);
    }

    private static void travellersComeOn0To40() {
        due.is("COMES, 0", Due.told("t0 5;").traveller(0, 0), 0);
        due.is("COMES, 40", Due.told("t40 5;").traveller(0, 0), 40);
        fault("COMES, 41", "t41 5;", 1);
        fault("COMES, 1023", "t1023 5;", 1);
    }

    private static void chanceOf0To10() {
        due.is("CHANCE, 0", Due.told("t5 0;").traveller(0, 1), 0);
        due.is("CHANCE, 10", Due.told("t5 10;").traveller(0, 1), 10);
        fault("CHANCE, 11", "t5 11;", 3);
        fault("CHANCE, 40", "t40 40;", 4);
    }

    private static void sixTravellersAtMost() {
        SmokedLetters x = Due.told("t1 6;t2 5;t3 4;t4 3;t5 2;t6 1;");
        due.is("TRAVELLERS, 6", x.count(3), 6);
        for (int t = 0; t < 6; t++) {
            due.is("TRAVELLERS, the one told as number " + t, x.traveller(t, 0) * 10 + x.traveller(t, 1),
                    (t + 1) * 10 + 6 - t);
        }
        String six = repeated("t0 0;", 6);
        taken("TRAVELLERS, 6 and the others", "k0 10 10;" + six + "q2;", 8);
        fault("a seventh t", six + "t0 0;", 30);
        fault("a seventh t, at its letter", six + "  t", 32);
        fault("a seventh t, ahead of its own faults", six + "t41 x", 30);
    }

    private static void clerksBurn0To1023() {
        due.is("BURNS, 0", Due.told("k0 1 2;").clerk(0, 0), 0);
        due.is("BURNS, 1023", Due.told("k1023 1 2;").clerk(0, 0), 1023);
        fault("BURNS, 1024", "k1024 1 2;", 1);
        fault("BURNS, 1030", "k 1030 1 2;", 2);
    }

    private static void mercyOf0To9UnlikeOrBoth10() {
        for (int m = 0; m <= 11; m++) {
            for (int n = 0; n <= 12; n++) {
                String text = "k0 " + m + " " + n + ";";
                boolean words = m <= 9 && n <= 9 && m != n;
                if (words || (m == 10 && n == 10)) {
                    SmokedLetters x = Due.told(text);
                    due.is("MERCY, " + text, x.clerk(0, 1) * 100 + x.clerk(0, 2), m * 100 + n);
                } else {
                    fault("MERCY, an N that goes not with M, or no M", text, m == 11 ? 3 : m == 10 ? 6 : 5);
                }
            }
        }
    }

    private static void fourClerksAtMost() {
        SmokedLetters x = Due.told("k1 1 2;k2 3 4;k3 5 6;k4 7 8;");
        due.is("CLERKS, 4", x.count(4), 4);
        for (int k = 0; k < 4; k++) {
            due.is("CLERKS, the one told as number " + k, x.clerk(k, 0) * 10 + x.clerk(k, 1), (k + 1) * 10 + 2 * k + 1);
        }
        String four = repeated("k0 1 2;", 4);
        taken("CLERKS, 4 and the others", "t0 0;" + four + "q2;", 6);
        fault("a fifth k", four + "k0 1 2;", 28);
        fault("a fifth k, at its letter", four + " k", 29);
        fault("a fifth k, ahead of its own faults", four + "k1024 x", 28);
    }

    private static void onceEachAtMost() {
        for (String letter : new String[] {"q", "r", "b"}) {
            fault("once each at most", letter + "1;" + letter + "1;", 3);
            fault("once each at most, at its letter", letter + "1; " + letter, 4);
            fault("once each at most, ahead of its own faults", letter + "1;" + letter + "0;", 3);
            fault("once each at most, others between", letter + "2;t0 0;k0 10 10;" + letter + "2;", 17);
            SmokedLetters x = Due.told(letter + "3;");
            due.is("once in each text", Due.tell(x, letter + "2;"), 1);
        }
        taken("one of each", "b1;r1;q1;", 3);
    }

    private static void blanksBetweenTokens() {
        taken("blanks: none", "q3;r2;t0 5;k6 3 4;", 4);
        taken("blanks: one each", " q 3 ; r 2 ; t 0 5 ; k 6 3 4 ; ", 4);
        taken("blanks: many", "   q   3   ;   t   0   5   ;   ", 2);
        fault("a blank in a NUMBER makes it two", "q1 0;", 3);
        fault("no blank makes two NUMBERS one", "t05;", 1);
        fault("no blank makes two NUMBERS one, too few then", "t12;", 3);
        for (int sign : new int[] {0, 9, 10, 11, 12, 13, 31, 33, 160}) {
            fault("blanks are 32 alone, " + sign, "q" + (char) sign + "3;", 1);
            fault("blanks are 32 alone, at the end, " + sign, "q3;" + (char) sign, 3);
        }
    }

    private static void numbersUpTo1023() {
        taken("a NUMBER, 1023", "k1023 10 10;", 1);
        fault("a NUMBER, 1024", "k1024 10 10;", 1);
        // These wrap around to numbers that could stand there.
        String[] wraps = {"65539", "4294967299", "18446744073709551619", "2147483651", "10000000000000000000003"};
        for (String number : wraps) {
            fault("a NUMBER above 1023", "q" + number + ";", 1);
            fault("a NUMBER above 1023, behind another", "t3 " + number + ";", 3);
            fault("a NUMBER above 1023, where ; should stand", "q3 " + number, 3);
        }
        fault("a NUMBER as long as the text", "q" + repeated("9", 199), 1);
        fault("a NUMBER as long as the text, of 0s", "q" + repeated("0", 199), 1);
    }

    private static void numbersWithA0Ahead() {
        taken("0 alone", "t0 0;", 1);
        taken("a 0 behind others", "q10;", 1);
        fault("a 0 ahead of others", "q03;", 1);
        fault("a 0 ahead of 0", "t00 0;", 1);
        fault("a 0 ahead, second NUMBER", "t0 05;", 3);
        fault("a 0 ahead, third NUMBER", "k0 1 02;", 5);
        fault("a 0 ahead, where no NUMBER stands", "03", 0);
    }

    private static void tokensThatCantStandThere() {
        for (String token : new String[] {";", "5", "0"}) {
            fault("an ITEM can't begin so", token, 0);
            fault("an ITEM can't begin so, behind another", "q3; " + token + ";", 4);
        }
        String[] letters = {"q", "r", "b", "t", "k", ";"};
        for (String letter : letters) {
            fault("no NUMBER behind q", "q" + letter, 1);
            fault("no NUMBER behind r", "r " + letter, 2);
            fault("no NUMBER behind b", "b" + letter, 1);
            fault("no NUMBER behind t", "t" + letter, 1);
            fault("no second NUMBER of t", "t3" + letter, 2);
            fault("no NUMBER behind k", "k" + letter, 1);
            fault("no second NUMBER of k", "k3" + letter, 2);
            fault("no third NUMBER of k", "k3 4" + letter, 4);
        }
        for (String letter : new String[] {"q", "r", "b", "t", "k", "7", "0"}) {
            fault("no ; behind q", "q3 " + letter, 3);
            fault("no ; behind t", "t3 4 " + letter, 5);
            fault("no ; behind k", "k3 4 5 " + letter, 7);
        }
    }

    /** Each letter that is no TOKEN, at each place where a TOKEN may stand. */
    private static void anyOtherLetter() {
        for (int sign = 0; sign < 256; sign++) {
            if (sign == ' ' || "qrbtk;0123456789".indexOf(sign) >= 0) {
                continue;
            }
            char letter = (char) sign;
            due.is("any other letter, " + sign, typed("" + letter).island(), -10);
            due.is("any other letter, behind q, " + sign, typed("q" + letter).island(), -11);
            due.is("any other letter, behind a NUMBER, " + sign, typed("q3" + letter + ";").island(), -12);
            due.is("any other letter, behind ;, " + sign, typed("q3; " + letter).island(), -14);
        }
        fault("any other letter", "q3;x", 3);
    }

    private static void textThatEndsTooEarly() {
        String[] early = {"q", "r", "b", "t", "k", "q3", "r3", "b3", "t3", "t3 4", "k3", "k3 4", "k3 4 5",
            "q3;t", "q3;t0 0;k1 2 3"};
        for (String text : early) {
            fault("it ends too early", text, text.length());
            fault("it ends too early, the text's length", text + "   ", text.length() + 3);
        }
        fault("it ends too early, a full text", filled("q", 200), 200);
        fault("it ends too early, at the last letter", filled("q3;", 199) + "r", 200);
        fault("it ends too early, at the last figure", filled("q3;", 198) + "r2", 200);
        fault("the last letter of a full text", filled("q3;", 199) + ";", 199);
        taken("; as the last letter of a full text", filled("q3;", 197) + "r2;", 2);
    }

    private static void firstOfTwoFaults() {
        fault("the first TOKEN", "q0;r0;", 1);
        fault("the first TOKEN, two letters", "x!", 0);
        fault("the first TOKEN, a later letter that is none", "q3;;x", 3);
        fault("the first TOKEN, a later NUMBER that is none", "q3 3 1024", 3);
        fault("the first TOKEN, ahead of an early end", "t41", 1);
        fault("the first TOKEN, M ahead of N", "k0 11 11;", 3);
        fault("the first TOKEN, D ahead of C", "t41 11;", 1);
    }

    private static void noTextAndMostItems() {
        taken("no ITEMS", "", 0);
        taken("no ITEMS, a blank", " ", 0);
        taken("no ITEMS, blanks alone", filled("", 200), 0);
        String most = "q40;r3;b9;" + repeated("t40 10;", 6) + repeated("k1023 9 8;", 4);
        taken("all ITEMS that may be", most, 13);
        taken("all ITEMS that may be, in a full text", filled(most, 200), 13);
    }

    private static void textStaysBehindAFault() {
        SmokedLetters x = typed("q4");
        due.is("4: a fault", x.island(), -12);
        due.is("4: the text stays", x.count(7), 2);
        due.is("4: the same fault again", x.island(), -12);
        due.is("4: the text goes on", x.type(';'), 3);
        due.is("4: and is good then", x.island(), 1);
        due.is("4: it tells", x.count(0), 4);
        x = typed("q5;t0 0;k0 1 2;r0;");
        x.island();
        x.clear();
        Due.tell(x, "r1;");
        due.is("4: what stood ahead of a fault is not told", x.count(0) * 100 + x.count(3) * 10 + x.count(4), 1000);
        x = typed("q5;b3;;");
        x.island();
        due.is("4: nor does it stand as told once", Due.tell(x, "q6;b4;"), 2);
        x = typed(repeated("t0 0;", 6) + repeated("k0 1 2;", 4) + "x");
        x.island();
        due.is("4: nor is it counted", Due.tell(x, "t0 0;k0 1 2;"), 2);
    }

    private static void textIsEmptyBehindIsland() {
        SmokedLetters x = typed("q4;t0 0;");
        due.is("4: ITEMS", x.island(), 2);
        due.is("4: empty then", x.count(7), 0);
        due.is("4: no more letters", x.clear(), 0);
        due.is("4: no text tells all anew", x.island(), 0);
        due.is("4: THE HOLD as at first", x.count(0), 10);
        due.is("4: nobody then", x.count(3), 0);
    }

    private static void readAnew() {
        SmokedLetters x = typed("q7;r3;b2;t3 4;t0 1;k5 6 7;k9 10 10;");
        x.keep(1);
        due.is("4: read anew", x.island(), 7);
        int[] nows = {0, 0, 0, 0, 1, 0}, counts = {7, 3, 2, 2, 2, 0, 0, 0};
        for (int what = 0; what < nows.length; what++) {
            due.is("read anew: now " + what, x.now(what), nows[what]);
        }
        for (int what = 0; what < counts.length; what++) {
            due.is("read anew: count " + what, x.count(what), counts[what]);
        }
        due.is("read anew: in no row", x.traveller(1, 2), NONE);
        due.is("read anew: no days", x.traveller(1, 3), 0);
        due.is("read anew: no LETTER", x.word(0), BAD);
        due.is("read anew: nothing BROWN", x.stood(0), BAD);
        due.is("read anew: image 0 is gone", x.back(0), STATE);
        due.is("read anew: image 1 is gone", x.back(1), STATE);
        due.is("read anew: nothing to undo", x.undo(), STATE);
        due.is("read anew: he can be put", x.puts(1, 0), 1);
        SmokedLetters sailed = Due.told("q1;t0 0;");
        sailed.puts(0, 0);
        sailed.day();
        sailed.sails(0);
        Due.tell(sailed, "t0 0;");
        due.is("read anew: nobody is GONE", sailed.now(3), 0);
        due.is("read anew: nobody is GONE, of him", sailed.traveller(0, 4), 0);
    }

    private static void travellerBounds() {
        for (int t : new int[] {LEAST, NONE, -1, 2, 6, GREATEST}) {
            due.changesNothing("5: no TRAVELLER " + t, IslandBoundsTest::used, x -> x.traveller(t, 0), BAD);
        }
        for (int what : new int[] {LEAST, -1, 5, GREATEST}) {
            due.changesNothing("5: what " + what, IslandBoundsTest::used, x -> x.traveller(0, what), BAD);
        }
        int[] due1 = {0, 1, 2, 1, 0};
        for (int what = 0; what < 5; what++) {
            int is = what;
            due.changesNothing("5: what " + what, IslandBoundsTest::used, x -> x.traveller(1, is), due1[what]);
        }
        due.is("5: the sixth", Due.told(repeated("t0 0;", 5) + "t7 0;").traveller(5, 0), 7);
        due.is("5: a seventh", Due.told(repeated("t0 0;", 6)).traveller(6, 0), BAD);
        due.is("5: two reasons at once", used().traveller(2, 5), BAD);
    }

    private static void travellerInNoRow() {
        SmokedLetters x = Due.told("q1;t0 0;t1 0;");
        due.is("5: NONE: in none, he is here", x.traveller(0, 2), NONE);
        due.is("5: NONE: in none, he is to come", x.traveller(1, 2), NONE);
        x.puts(0, 0);
        due.is("5: row 0", x.traveller(0, 2), 0);
        due.is("5: 0 days", x.traveller(0, 3), 0);
        x.day();
        due.is("5: 1 day", x.traveller(0, 3), 1);
        due.is("5: in no row, no days", x.traveller(1, 3), 0);
        x.sails(0);
        due.is("5: NONE: in none, he is GONE", x.traveller(0, 2), NONE);
        due.is("5: GONE", x.traveller(0, 4), 1);
        due.is("5: not GONE", x.traveller(1, 4), 0);
        Due.days(x, 199);
        due.is("5: no days at the last day", x.traveller(1, 3), 0);
    }

    private static void clerkBounds() {
        for (int k : new int[] {LEAST, NONE, -1, 2, 4, GREATEST}) {
            due.changesNothing("6: no CLERK " + k, IslandBoundsTest::used, x -> x.clerk(k, 0), BAD);
        }
        for (int what : new int[] {LEAST, -1, 3, GREATEST}) {
            due.changesNothing("6: what " + what, IslandBoundsTest::used, x -> x.clerk(0, what), BAD);
        }
        int[][] clerks = {{5, 6, 7}, {9, 10, 10}};
        for (int k = 0; k < 2; k++) {
            for (int what = 0; what < 3; what++) {
                due.is("6: " + k + ", " + what, used().clerk(k, what), clerks[k][what]);
            }
        }
        due.is("6: the fourth", Due.told(repeated("k0 1 2;", 3) + "k7 1 2;").clerk(3, 0), 7);
        due.is("6: a fifth", Due.told(repeated("k0 1 2;", 4)).clerk(4, 0), BAD);
        due.is("6: two reasons at once", used().clerk(2, 3), BAD);
    }

    private static void nowBounds() {
        for (int what : new int[] {LEAST, NONE, -1, 6, GREATEST}) {
            due.changesNothing("7: what " + what, IslandBoundsTest::used, x -> x.now(what), BAD);
        }
        int[] nows = {1, 1, 0, 0, 0, 5};
        for (int what = 0; what < 6; what++) {
            int is = what;
            due.changesNothing("7: what " + what, IslandBoundsTest::used, x -> x.now(is), nows[what]);
        }
        SmokedLetters x = Due.told("q1;r3;" + repeated("t0 0;", 6));
        for (int t = 0; t < 6; t++) {
            x.puts(t, t % 3);
        }
        due.is("7: nobody may LEAVE", x.now(2), 0);
        x.day();
        due.is("7: all may LEAVE", x.now(2), 63);
        due.is("7: nobody is GONE", x.now(3), 0);
        int[] order = {5, 0, 3, 1, 4, 2};
        int gone = 0;
        for (int t : order) {
            x.sails(t);
            gone |= 1 << t;
            due.is("7: GONE, bits", x.now(3), gone);
            due.is("7: who is GONE may not LEAVE", x.now(2), 63 - gone);
        }
        due.is("7: ten may be UNDONE", x.now(5), 10);
    }
}
