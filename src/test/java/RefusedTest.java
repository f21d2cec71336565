import java.util.function.Supplier;
import java.util.function.ToLongFunction;

/**
 * "Refused, and nothing changes, the first of these: BAD, STATE, FULL": every call, on a new object
 * and on one where all is full, so that most calls are refused for more than one reason.
 */
public final class RefusedTest {
    private static final int BAD = -1, STATE = -2, FULL = -3, NONE = -9, NO = -1000000;
    private static final int[] FAR = {Integer.MIN_VALUE, -1000000000, 1000000000, Integer.MAX_VALUE};
    private static final Due due = new Due();

    private interface FarCall {
        long on(SmokedLetters x, int far);
    }

    public static void main(String[] args) {
        looksSeeWhatChanges();
        badAheadOfAll();
        stateAheadOfFull();
        fullAlone();
        farNumbersInEveryCall();
        due.end();
    }

    /** Six travellers (three gone), four clerks, five words, four brown, 200 letters, ten to undo. */
    private static SmokedLetters full() {
        SmokedLetters x = Due.told("q2;r3;b3;t0 1;t0 2;t0 3;t0 4;t0 5;t40 6;k1 1 2;k2 2 3;k4 3 4;k0 10 10;");
        for (int t = 0; t < 5; t++) {
            x.puts(t, t % 3);
        }
        Due.days(x, 3);
        x.keep(0);
        for (int t = 0; t < 3; t++) {
            x.sails(t);
        }
        x.day();
        x.keep(1);
        Due.write(x, 9, 8, 7, 6, 5);
        for (int k = 0; k < 4; k++) {
            x.brown(k);
        }
        x.rate(5, 0);
        for (int i = 0; i < 200; i++) {
            x.type(i == 0 ? 'q' : i == 1 ? '3' : i == 2 ? ';' : ' ');
        }
        return x;
    }

    private static void changes(String name, Supplier<SmokedLetters> state, ToLongFunction<SmokedLetters> call) {
        String ahead = Looks.behind(state, x -> 0);
        due.holds("a look sees " + name, !Looks.behind(state, call).equals(ahead));
    }

    /** A look that saw nothing would find that nothing changes, whatever a call did. */
    private static void looksSeeWhatChanges() {
        Supplier<SmokedLetters> some = RefusedTest::full, made = SmokedLetters::new;
        changes("type()", made, x -> x.type('q'));
        changes("type() of a blank", made, x -> x.type(' '));
        changes("clear()", some, x -> x.clear());
        changes("island()", some, x -> x.island());
        changes("puts()", () -> Due.told("t0 0;"), x -> x.puts(0, 0));
        changes("day()", made, x -> x.day());
        changes("sails()", RefusedTest::onABoatsDay, x -> x.sails(3));
        changes("undo()", some, x -> x.undo());
        changes("writes()", made, x -> x.writes(0));
        changes("tears() of nothing", made, x -> x.tears());
        changes("smokes() that changes no word", some, x -> x.smokes(3));
        changes("brown()", () -> {
            SmokedLetters x = full();
            x.burn();
            return x;
        }, x -> x.brown(0));
        changes("burn()", some, x -> x.burn());
        changes("rate()", some, x -> x.rate(0, 0));
        changes("keep()", made, x -> x.keep(0));
        changes("keep() anew", some, x -> x.keep(0));
        changes("back()", some, x -> x.back(1));
    }

    private static SmokedLetters onABoatsDay() {
        SmokedLetters x = full();
        Due.days(x, 2);
        return x;
    }

    private static void refused(String name, ToLongFunction<SmokedLetters> call, long want) {
        due.changesNothing("full: " + name, RefusedTest::full, call, want);
    }

    private static void badAheadOfAll() {
        refused("type, FULL too", x -> x.type(-1), BAD);
        refused("type, FULL too, above", x -> x.type(256), BAD);
        refused("writes, FULL too", x -> x.writes(-1), BAD);
        refused("writes, FULL too, LOST", x -> x.writes(10), BAD);
        refused("brown, FULL too", x -> x.brown(4), BAD);
        refused("brown, FULL too, below", x -> x.brown(-1), BAD);
        refused("puts, of one who is GONE, into no ROW", x -> x.puts(0, 3), BAD);
        refused("puts, of one in a ROW, into no ROW", x -> x.puts(3, -1), BAD);
        refused("puts, of one who is to come, into no ROW", x -> x.puts(5, 3), BAD);
        refused("puts, of no TRAVELLER", x -> x.puts(6, 0), BAD);
        refused("sails, of no TRAVELLER, without a BOAT", x -> x.sails(6), BAD);
        refused("waits, of no TRAVELLER", x -> x.waits(6), BAD);
        refused("back, of no IMAGE", x -> x.back(2), BAD);
        refused("letters, at no place, LETTERS are none", x -> x.letters(5), BAD);
        refused("stood, at no place", x -> x.stood(5), BAD);
        refused("well, so many can't be, of no TRAVELLER", x -> x.well(6, 6, 0), BAD);
        refused("boat, no DAY, and what", x -> x.boat(0, 2), BAD);
        refused("chain, no row, and no place", x -> x.chain(11, -2), BAD);
        refused("rate, no KIND, and no CLERK", x -> x.rate(-1, 4), NO);
    }

    private static void stateAheadOfFull() {
        ToLongFunction<SmokedLetters> brown = x -> x.brown(0);
        due.changesNothing("full: brown, not as long, FULL too", () -> {
            SmokedLetters x = full();
            x.undo();
            return x;
        }, brown, STATE);
        due.changesNothing("full: brown, empty, FULL too", () -> {
            SmokedLetters x = full();
            x.tears();
            return x;
        }, brown, STATE);
        refused("puts, GONE", x -> x.puts(0, 0), STATE);
        refused("puts, in a ROW", x -> x.puts(3, 1), STATE);
        refused("puts, to come", x -> x.puts(5, 1), STATE);
        refused("sails, GONE, and no BOAT", x -> x.sails(0), STATE);
        refused("sails, may LEAVE, but no BOAT", x -> x.sails(3), STATE);
        refused("waits, GONE", x -> x.waits(0), STATE);
        refused("waits, to come", x -> x.waits(5), STATE);
    }

    private static void fullAlone() {
        refused("type", x -> x.type(' '), FULL);
        refused("writes", x -> x.writes(0), FULL);
        refused("brown", x -> x.brown(0), FULL);
    }

    private static void farNumbersInEveryCall() {
        for (int far : FAR) {
            farInTheIsland(far);
            farInDays(far);
            farInPlans(far);
            farInSpots(far);
            farInLetters(far);
            farInKindsAndImages(far);
        }
    }

    private static void farInTheIsland(int far) {
        far("type(a)", far, (x, a) -> x.type(a), BAD);
        far("traveller(a, 0)", far, (x, a) -> x.traveller(a, 0), BAD);
        far("traveller(0, a)", far, (x, a) -> x.traveller(0, a), BAD);
        far("traveller(a, a)", far, (x, a) -> x.traveller(a, a), BAD);
        far("clerk(a, 0)", far, (x, a) -> x.clerk(a, 0), BAD);
        far("clerk(0, a)", far, (x, a) -> x.clerk(0, a), BAD);
        far("clerk(a, a)", far, (x, a) -> x.clerk(a, a), BAD);
        far("now(a)", far, (x, a) -> x.now(a), BAD);
    }

    private static void farInDays(int far) {
        far("puts(a, 0)", far, (x, a) -> x.puts(a, 0), BAD);
        far("puts(0, a)", far, (x, a) -> x.puts(0, a), BAD);
        far("puts(a, a)", far, (x, a) -> x.puts(a, a), BAD);
        far("sails(a)", far, (x, a) -> x.sails(a), BAD);
    }

    private static void farInPlans(int far) {
        far("most(a, NONE)", far, (x, a) -> x.most(a, NONE), BAD);
        far("most(10, a)", far, (x, a) -> x.most(10, a), BAD);
        far("most(a, a)", far, (x, a) -> x.most(a, a), BAD);
        far("soonest(a)", far, (x, a) -> x.soonest(a), BAD);
        far("plan(a, NONE)", far, (x, a) -> x.plan(a, NONE), BAD);
        far("plan(0, a)", far, (x, a) -> x.plan(0, a), BAD);
        far("plan(a, a)", far, (x, a) -> x.plan(a, a), BAD);
        far("waits(a)", far, (x, a) -> x.waits(a), BAD);
        far("boat(a, 0)", far, (x, a) -> x.boat(a, 0), BAD);
        far("boat(1, a)", far, (x, a) -> x.boat(1, a), BAD);
        far("boat(a, a)", far, (x, a) -> x.boat(a, a), BAD);
    }

    private static void farInSpots(int far) {
        far("clean(a, 0)", far, (x, a) -> x.clean(a, 0), BAD);
        far("clean(0, a)", far, (x, a) -> x.clean(0, a), BAD);
        far("clean(a, a)", far, (x, a) -> x.clean(a, a), BAD);
        far("well(a, 0, 0)", far, (x, a) -> x.well(a, 0, 0), BAD);
        far("well(0, a, 0)", far, (x, a) -> x.well(0, a, 0), BAD);
        far("well(0, 0, a)", far, (x, a) -> x.well(0, 0, a), BAD);
        far("well(a, a, a)", far, (x, a) -> x.well(a, a, a), BAD);
    }

    private static void farInLetters(int far) {
        far("writes(a)", far, (x, a) -> x.writes(a), BAD);
        far("smokes(a)", far, (x, a) -> x.smokes(a), BAD);
        far("word(a)", far, (x, a) -> x.word(a), BAD);
        far("brown(a)", far, (x, a) -> x.brown(a), BAD);
        far("stood(a)", far, (x, a) -> x.stood(a), BAD);
        far("letters(a)", far, (x, a) -> x.letters(a), BAD);
        far("whose(a)", far, (x, a) -> x.whose(a), BAD);
        far("chain(a, -1)", far, (x, a) -> x.chain(a, -1), BAD);
        far("chain(a, a)", far, (x, a) -> x.chain(a, a), BAD);
    }

    private static void farInKindsAndImages(int far) {
        far("rate(a, 0)", far, (x, a) -> x.rate(a, 0), NO);
        far("rate(0, a)", far, (x, a) -> x.rate(0, a), NO);
        far("rate(a, a)", far, (x, a) -> x.rate(a, a), NO);
        far("keep(a)", far, (x, a) -> x.keep(a), BAD);
        far("back(a)", far, (x, a) -> x.back(a), BAD);
        far("count(a)", far, (x, a) -> x.count(a), BAD);
    }

    private static void far(String name, int far, FarCall call, int want) {
        refused(name + " of " + far, x -> call.on(x, far), want);
        due.changesNothing("new: " + name + " of " + far, SmokedLetters::new, x -> call.on(x, far), want);
    }
}
