import java.util.function.ToLongFunction;

/** The bounds that the document names for rate, keep, back, count and trace. */
public final class KindsBoundsTest {
    private static final int BAD = -1, STATE = -2, NONE = -9, NO = -1000000;
    private static final int LEAST = Integer.MIN_VALUE, GREATEST = Integer.MAX_VALUE;
    private static final Due due = new Due();

    public static void main(String[] args) {
        rateWithoutSuchThing();
        rateOfEachKind();
        rateBelow0AndAbove();
        rateOfTheGone();
        traceOfEachBody();
        traceIsLeftAlone();
        traceOf512Calls();
        keepOfImages0And1();
        keepWhatWasKept();
        backOfImages0And1();
        backOfNone();
        backBringsAllOfThat();
        backBringsNothingElse();
        nothingUndoneBehindBack();
        imagesStayBehindOtherCalls();
        countWithoutSuchThing();
        countOfNothingAndOfAll();
        due.end();
    }

    /** Day 2: 0 is gone, 1 in row 1, two words, one brown; image 1 is of day 1. */
    private static SmokedLetters used() {
        SmokedLetters x = Due.told("q1;r2;t0 5;t0 2;k6 3 4;k1023 10 10;");
        x.puts(0, 0);
        x.day();
        x.keep(1);
        x.sails(0);
        x.puts(1, 1);
        x.day();
        Due.write(x, 3, 1);
        x.brown(0);
        x.rate(0, 0);
        x.type('q');
        return x;
    }

    private static void asks(String name, ToLongFunction<SmokedLetters> call, int want) {
        due.changesNothing(name, KindsBoundsTest::used, call, want);
    }

    private static void rateWithoutSuchThing() {
        for (int kind : new int[] {LEAST, NONE, -1, 6, GREATEST}) {
            asks("29: no KIND " + kind, x -> x.rate(kind, 0), NO);
        }
        for (int k : new int[] {LEAST, NONE, -1, 2, 4, GREATEST}) {
            for (int kind = 0; kind < 6; kind++) {
                int of = kind;
                asks("29: no CLERK " + k, x -> x.rate(of, k), NO);
            }
        }
        asks("29: both", x -> x.rate(6, 2), NO);
        due.is("29: no CLERKS", new SmokedLetters().rate(0, 0), NO);
        due.is("29: the constant", SmokedLetters.NO, -1000000);
    }

    private static void ratesAre(String name, SmokedLetters x, int k, int... rates) {
        for (int kind = 0; kind < 6; kind++) {
            due.is(name + ", as of KIND " + kind, x.rate(kind, k), rates[kind]);
        }
    }

    private static void rateOfEachKind() {
        SmokedLetters x = Due.told("k7 3 5;k7 3 5;k7 3 5;k7 3 5;");
        for (int k = 0; k < 4; k++) {
            ratesAre("29: his number " + k, x, k, 3, 6, -2, 12, -2 + k, 3);
        }
    }

    private static void rateBelow0AndAbove() {
        SmokedLetters x = Due.told("k0 10 10;k1023 10 10;k0 0 9;k1023 9 0;");
        ratesAre("29: BURNS none, no MERCY", x, 0, 0, 10, -10, 20, -10, 0);
        ratesAre("29: BURNS all, no MERCY", x, 1, 10, 20, 0, 40, 1, 10);
        ratesAre("29: BURNS none, MERCY 0 to 9", x, 2, 0, 0, -9, 0, -7, 0);
        ratesAre("29: BURNS all, MERCY 9 to 0", x, 3, 10, 19, 10, 38, 13, 10);
    }

    private static void rateOfTheGone() {
        SmokedLetters x = Due.told("q1;k3 1 2;" + "t0 0;".repeat(6));
        for (int t = 0; t < 6; t++) {
            x.puts(t, 0);
        }
        x.day();
        for (int t = 0; t < 6; t++) {
            due.is("29: GONE, " + t, x.rate(5, 0), 2 + t);
            x.sails(t);
        }
        due.is("29: all are GONE", x.rate(5, 0), 8);
        ratesAre("29: GONE counts for a GULL alone", x, 0, 2, 3, 0, 6, 0, 8);
    }

    private static void traceOfEachBody() {
        int[] adds = {1, 11, 101, 1011, 10101, 100001};
        for (int kind = 0; kind < 6; kind++) {
            SmokedLetters x = Due.told("k6 3 4;");
            due.is("33: 0 at first", x.trace(), 0);
            x.rate(kind, 0);
            due.is("33: each once, KIND " + kind, x.trace(), adds[kind]);
            x.rate(kind, 0);
            due.is("33: as often as rate() asks, KIND " + kind, x.trace(), 2 * adds[kind]);
            x.rate(kind, 1);
            due.is("33: not if it is refused, KIND " + kind, x.trace(), 2 * adds[kind]);
        }
    }

    private static void traceIsLeftAlone() {
        SmokedLetters x = used();
        x.back(1);
        due.is("33: an IMAGE has it not", x.trace(), 1);
        SmokedLetters undone = used();
        while (undone.now(5) > 0) {
            undone.undo();
        }
        due.is("33: it can't be UNDONE", undone.trace(), 1);
        SmokedLetters anew = used();
        Due.tell(anew, "k1 10 10;");
        due.is("33: a text tells it not", anew.trace(), 1);
        asks("33: trace() adds nothing", y -> (int) y.trace(), 1);
    }

    private static void traceOf512Calls() {
        SmokedLetters x = Due.told("k1 10 10;");
        for (int i = 0; i < 500; i++) {
            x.rate(5, 0);
        }
        due.is("33: the greatest", x.trace(), 500L * 100001);
    }

    private static void keepOfImages0And1() {
        for (int image : new int[] {LEAST, NONE, -1, 2, GREATEST}) {
            asks("30: no IMAGE " + image, x -> x.keep(image), BAD);
        }
        due.is("30: IMAGE 0, THE DAY", used().keep(0), 2);
        due.is("30: IMAGE 1, THE DAY", used().keep(1), 2);
        due.is("30: of a new object", new SmokedLetters().keep(0), 0);
        SmokedLetters last = new SmokedLetters();
        Due.days(last, 200);
        due.is("30: of DAY 200", last.keep(1), 200);
        last.undo();
        due.is("30: back to DAY 200", last.back(1), 200);
        due.is("30: no day more", last.day(), STATE);
    }

    private static void keepWhatWasKept() {
        SmokedLetters x = used();
        x.keep(1);
        x.day();
        due.is("30: the later one", x.back(1), 2);
        x = used();
        x.keep(0);
        x.day();
        due.is("30: the other one stays", x.back(1), 1);
        due.is("30: each by itself", x.back(0), 2);
        x = used();
        int known = x.now(5);
        x.keep(0);
        due.is("30: it can't be UNDONE", x.now(5), known);
    }

    private static void backOfImages0And1() {
        for (int image : new int[] {LEAST, NONE, -1, 2, GREATEST}) {
            asks("31: no IMAGE " + image, x -> x.back(image), BAD);
        }
        due.changesNothing("31: BAD ahead of STATE", SmokedLetters::new, x -> x.back(2), BAD);
    }

    private static void backOfNone() {
        asks("31: STATE: none was kept", x -> x.back(0), STATE);
        due.changesNothing("31: STATE: none, a new object", SmokedLetters::new, x -> x.back(1), STATE);
        SmokedLetters x = new SmokedLetters();
        x.keep(2);
        x.keep(-1);
        due.is("31: a refused keep() keeps nothing", x.back(0), STATE);
        due.is("31: a refused keep() keeps nothing in 1", x.back(1), STATE);
        x.keep(0);
        due.is("31: one is kept", x.back(0), 0);
        due.is("31: the other one is not", x.back(1), STATE);
        Due.tell(x, "q1;");
        due.is("31: IMAGES are gone", x.back(0), STATE);
    }

    private static void backBringsAllOfThat() {
        SmokedLetters x = used();
        due.is("31: THE DAY", x.back(1), 1);
        due.is("31: THE DAY stands", x.now(0), 1);
        due.is("31: VINEGAR", x.now(1), 1);
        due.is("31: who may LEAVE", x.now(2), 1);
        due.is("31: who is GONE", x.now(3), 0);
        due.is("31: a ROW", x.traveller(0, 2), 0);
        due.is("31: DAYS", x.traveller(0, 3), 1);
        due.is("31: in no ROW", x.traveller(1, 2), NONE);
        due.is("31: THE LETTER", x.count(5), 0);
        Due.days(x, 3);
        x.writes(8);
        due.is("31: once more", x.back(1), 1);
        due.is("31: DAYS as they were kept", x.traveller(0, 3), 1);
        due.is("31: THE LETTER as it was kept", x.count(5), 0);
        SmokedLetters lost = Due.told("k2 10 10;");
        Due.write(lost, 1, 2, 3, 4, 5);
        lost.smokes(0);
        lost.keep(0);
        lost.tears();
        lost.back(0);
        due.is("31: five WORDS", lost.count(5), 5);
        due.is("31: the first is LOST", lost.word(0), 10);
        due.is("31: the fifth", lost.word(4), 5);
    }

    private static void backBringsNothingElse() {
        SmokedLetters x = used();
        x.back(1);
        int[] counts = {1, 2, 1, 2, 2, 0, 1, 1};
        for (int what = 0; what < 8; what++) {
            due.is("31: nothing else, count " + what, x.count(what), counts[what]);
        }
        due.is("31: nothing else, BROWN", x.stood(1), 0);
        due.is("31: nothing else, THE TRACE", x.trace(), 1);
        due.is("31: nothing else, the other IMAGE", x.back(0), STATE);
    }

    private static void nothingUndoneBehindBack() {
        SmokedLetters x = used();
        x.back(1);
        due.is("31: how many may be UNDONE", x.now(5), 0);
        due.is("31: nothing can be UNDONE", x.undo(), STATE);
        x.day();
        due.is("31: but what comes behind it", x.undo(), 0);
        due.is("31: to the IMAGE's DAY", x.now(0), 1);
        due.is("31: no further", x.undo(), STATE);
        SmokedLetters full = used();
        Due.days(full, 12);
        full.keep(0);
        full.back(0);
        Due.days(full, 11);
        due.is("31: ten are known anew", full.now(5), 10);
        for (int i = 0; i < 10; i++) {
            full.undo();
        }
        due.is("31: the oldest of them", full.now(0), 15);
    }

    private static void imagesStayBehindOtherCalls() {
        SmokedLetters fault = used();
        fault.island();
        due.is("31: an IMAGE behind a text with a FAULT", fault.back(1), 1);
        SmokedLetters x = used();
        while (x.now(5) > 0) {
            x.undo();
        }
        due.is("31: an IMAGE of a day that was taken back", x.back(1), 1);
        x.day();
        due.is("31: it is the IMAGE's own", x.back(1), 1);
    }

    private static void countWithoutSuchThing() {
        for (int what : new int[] {LEAST, NONE, -1, 8, GREATEST}) {
            asks("32: what " + what, x -> x.count(what), BAD);
        }
        int[] counts = {1, 2, 1, 2, 2, 2, 1, 1};
        for (int what = 0; what < 8; what++) {
            int is = what;
            asks("32: what " + what, x -> x.count(is), counts[what]);
        }
    }

    private static void countOfNothingAndOfAll() {
        int[] none = {10, 2, 1, 0, 0, 0, 0, 0}, all = {40, 3, 9, 6, 4, 5, 4, 200};
        SmokedLetters x = Due.told("q40;r3;b9;" + "t40 10;".repeat(6) + "k1023 9 8;".repeat(4));
        Due.write(x, 9, 9, 9, 9, 9);
        for (int i = 0; i < 4; i++) {
            x.brown(3);
        }
        for (int i = 0; i < 200; i++) {
            x.type(255);
        }
        for (int what = 0; what < 8; what++) {
            due.is("32: nothing, " + what, new SmokedLetters().count(what), none[what]);
            due.is("32: all that may be, " + what, x.count(what), all[what]);
        }
    }
}
