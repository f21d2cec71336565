import java.util.function.Supplier;
import java.util.function.ToLongFunction;

/** Counts and prints the answers that are not as due, and ends a test. */
final class Due {
    private int asked = 0;
    private int wrong = 0;

    void is(String call, long got, long want) {
        asked++;
        if (got != want) {
            wrong++;
            System.out.println(call + " answered " + got + ", due is " + want);
        }
    }

    void holds(String what, boolean so) {
        is(what, so ? 1 : 0, 1);
    }

    /** The call answers so, and all that can be looked at is as it was ahead of it. */
    void changesNothing(String name, Supplier<SmokedLetters> state, ToLongFunction<SmokedLetters> call, long want) {
        is(name, call.applyAsLong(state.get()), want);
        String ahead = Looks.behind(state, x -> 0);
        holds(name + ": nothing changes", Looks.behind(state, call).equals(ahead));
    }

    int wrong() {
        return wrong;
    }

    void end() {
        System.out.println(asked + " answers, " + wrong + " not as due");
        if (wrong != 0) {
            System.exit(1);
        }
    }

    /** Types a text and reads it: what island() answers. */
    static int tell(SmokedLetters x, String text) {
        x.clear();
        for (int i = 0; i < text.length(); i++) {
            x.type(text.charAt(i));
        }
        return x.island();
    }

    static SmokedLetters told(String text) {
        SmokedLetters x = new SmokedLetters();
        if (tell(x, text) < 0) {
            throw new IllegalStateException("a text with a fault: " + text);
        }
        return x;
    }

    static void write(SmokedLetters x, int... words) {
        for (int word : words) {
            x.writes(word);
        }
    }

    static void days(SmokedLetters x, int n) {
        for (int i = 0; i < n; i++) {
            x.day();
        }
    }

    /** A letter as a number: a 1, then its words, to the base 11. */
    static int number(int... words) {
        int sum = 1;
        for (int word : words) {
            sum = sum * 11 + word;
        }
        return sum;
    }
}
