import java.util.function.Supplier;
import java.util.function.ToLongFunction;

/**
 * All that can be learnt of an object from outside. What a look would change (what may be undone,
 * images, the text) is looked at on objects made anew, so that none is asked more than 512 calls.
 */
final class Looks {
    private final StringBuilder seen = new StringBuilder();

    /** What is seen when this call has been made on an object in this state. */
    static String behind(Supplier<SmokedLetters> state, ToLongFunction<SmokedLetters> call) {
        Looks looks = new Looks();
        looks.atAll(behindCall(state, call));
        for (int calls = 1; calls <= 11; calls++) {
            looks.atPast(behindCall(state, call), calls);
        }
        looks.atImages(behindCall(state, call));
        looks.atText(behindCall(state, call));
        return looks.seen.toString();
    }

    private static SmokedLetters behindCall(Supplier<SmokedLetters> state, ToLongFunction<SmokedLetters> call) {
        SmokedLetters x = state.get();
        call.applyAsLong(x);
        return x;
    }

    private void see(String what, long number) {
        seen.append(what).append('=').append(number).append('\n');
    }

    private void atAll(SmokedLetters x) {
        atNow(x);
        see("trace", x.trace());
        see("undo", x.now(5));
        for (int what = 0; what < 8; what++) {
            see("count" + what, x.count(what));
        }
        for (int t = 0; t < 6; t++) {
            see("comes" + t, x.traveller(t, 0));
            see("chance" + t, x.traveller(t, 1));
        }
        for (int k = 0; k < 4; k++) {
            for (int what = 0; what < 3; what++) {
                see("clerk" + k + what, x.clerk(k, what));
            }
        }
        for (int i = 0; i < 5; i++) {
            see("stood" + i, x.stood(i));
        }
        see("letters", x.letters(-9));
    }

    /** What an image keeps, and what is taken back. */
    private void atNow(SmokedLetters x) {
        for (int what = 0; what < 5; what++) {
            see("now" + what, x.now(what));
        }
        for (int t = 0; t < 6; t++) {
            for (int what = 2; what < 5; what++) {
                see("traveller" + t + what, x.traveller(t, what));
            }
        }
        see("words", x.count(5));
        for (int i = 0; i < 5; i++) {
            see("word" + i, x.word(i));
        }
    }

    private void atPast(SmokedLetters x, int calls) {
        for (int i = 0; i < calls; i++) {
            see("undone", x.undo());
        }
        atNow(x);
    }

    private void atImages(SmokedLetters x) {
        for (int image = 0; image < 2; image++) {
            see("image", x.back(image));
            atNow(x);
        }
    }

    private void atText(SmokedLetters x) {
        see("island", x.island());
        atAll(x);
    }
}
