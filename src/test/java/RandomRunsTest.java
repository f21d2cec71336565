import java.util.Random;

/** Runs of calls, the same ones each time, on the class and on NaiveIsland beside it. */
public final class RandomRunsTest {
    private static final int RUNS = 6000;
    /** An object is used for at most 512 calls; a step and the last look take some of them. */
    private static final int CALLS = 512, STEP = 20, LAST_LOOK = 40, TEXT = 220;
    private static final Due due = new Due();

    private final Random random;
    private final int run;
    private final SmokedLetters x = new SmokedLetters();
    private final NaiveIsland y = new NaiveIsland();
    private final StringBuilder log = new StringBuilder();
    /** A long letter makes NaiveIsland slow, so few runs have one. */
    private final int words;
    private int asked = 0;

    private RandomRunsTest(int run) {
        this.run = run;
        random = new Random(run);
        words = run % 40 == 0 ? 5 : 2;
    }

    public static void main(String[] args) {
        for (int run = 0; run < RUNS && due.wrong() == 0; run++) {
            new RandomRunsTest(run).go();
        }
        due.end();
    }

    private void go() {
        tellText();
        while (hasRoomFor(STEP + LAST_LOOK) && due.wrong() == 0) {
            step();
        }
        lookAtAll();
        due.holds("an object is asked 512 calls at most", asked <= CALLS);
        if (due.wrong() != 0) {
            System.out.println(log);
        }
    }

    private boolean hasRoomFor(int calls) {
        return asked + calls <= CALLS;
    }

    private int count(int what) {
        asked++;
        return x.count(what);
    }

    private int below(int n) {
        return random.nextInt(n);
    }

    /** A number from 0 to n - 1, now and then one that is a little or far off. */
    private int about(int n) {
        int sort = below(24);
        if (sort == 0) {
            return below(2) == 0 ? Integer.MIN_VALUE : Integer.MAX_VALUE;
        }
        return sort <= 2 ? below(n + 4) - 2 : below(Math.max(n, 1));
    }

    private int noneOr(int n) {
        return below(4) == 0 ? -9 : about(n);
    }

    private void tellText() {
        String text = randomText();
        for (int i = 0; i < text.length() && i < 210; i++) {
            int letter = text.charAt(i);
            same("type(" + letter + ")", x.type(letter), y.type(letter));
        }
        same("island()", x.island(), y.island());
        if (count(7) > 0) {
            same("clear()", x.clear(), y.clear());
        }
    }

    private String randomText() {
        StringBuilder text = new StringBuilder();
        int hold = below(3) == 0 ? 1 + below(40) : 1 + below(5);
        item(text, "q", hold);
        item(text, "r", 1 + below(3));
        item(text, "b", 1 + below(below(2) == 0 ? 3 : 9));
        int people = below(7), clerks = below(5), days = below(2) == 0 ? 8 : 41;
        // Six travellers in three rows make NaiveIsland slow.
        people = people == 6 && below(4) != 0 ? 3 : people;
        for (int i = 0; i < people; i++) {
            item(text, "t", below(days), below(11));
        }
        for (int i = 0; i < clerks; i++) {
            int m = below(4), n = (m + 1 + below(3)) % 4;
            boolean none = below(5) == 0;
            item(text, "k", below(3) == 0 ? below(1024) : below(16), none ? 10 : m, none ? 10 : n);
        }
        if (below(3) == 0) {
            spoil(text);
        }
        return text.toString();
    }

    private void item(StringBuilder text, String letter, int... numbers) {
        if (below(12) == 0) {
            return;
        }
        text.append(letter);
        for (int i = 0; i < numbers.length; i++) {
            text.append(i > 0 || below(4) == 0 ? " " : "").append(numbers[i]);
        }
        text.append(below(4) == 0 ? " ; " : ";");
    }

    private void spoil(StringBuilder text) {
        String signs = "qrbtk;0123456789  x\u00ff";
        int place = below(text.length() + 1);
        char sign = signs.charAt(below(signs.length()));
        int how = below(3);
        if (how == 0 && place < text.length()) {
            text.deleteCharAt(place);
        } else if (how == 1 && place < text.length()) {
            text.setCharAt(place, sign);
        } else {
            text.insert(place, sign);
        }
    }

    private void same(String call, long got, long want) {
        asked++;
        log.append(call).append(" = ").append(got).append('\n');
        due.is("run " + run + ": " + call, got, want);
    }

    private void step() {
        int sort = below(100);
        if (sort < 40) {
            stepDays();
        } else if (sort < 70) {
            stepLetters();
        } else if (sort < 96) {
            stepAsks();
        } else if (sort > 96 || !hasRoomFor(TEXT + LAST_LOOK)) {
            stepImages();
        } else {
            tellText();
        }
        look();
    }

    private void stepDays() {
        int t = about(count(3)), row = about(count(1));
        switch (below(5)) {
            case 0:
            case 1:
                same("day()", x.day(), y.day());
                break;
            case 2:
                same("puts(" + t + ", " + row + ")", x.puts(t, row), y.puts(t, row));
                break;
            case 3:
                same("sails(" + t + ")", x.sails(t), y.sails(t));
                break;
            default:
                if (below(3) == 0) {
                    same("undo()", x.undo(), y.undo());
                }
                break;
        }
    }

    private void stepLetters() {
        int k = about(count(4)), word = about(below(2) == 0 ? 4 : 10);
        switch (below(8)) {
            case 0:
            case 1:
                if (count(5) < words || below(20) == 0 && words == 5) {
                    same("writes(" + word + ")", x.writes(word), y.writes(word));
                }
                break;
            case 2:
                if (below(3) == 0) {
                    same("tears()", x.tears(), y.tears());
                }
                break;
            case 3:
                same("smokes(" + k + ")", x.smokes(k), y.smokes(k));
                break;
            case 4:
            case 5:
                same("brown(" + k + ")", x.brown(k), y.brown(k));
                break;
            case 6:
                if (below(3) == 0) {
                    same("burn()", x.burn(), y.burn());
                }
                break;
            default:
                askLetters();
                break;
        }
    }

    private void askLetters() {
        int i = about(count(5)), number = 1;
        for (int w = count(5) + (below(6) == 0 ? 1 : 0); w > 0; w--) {
            number = number * 11 + (below(30) == 0 ? 10 : below(4));
        }
        number = below(30) == 0 ? about(400000) : number;
        int at = below(5) - 1 - (below(20) == 0 ? 1 : 0), place = noneOr(count(5));
        same("word(" + i + ")", x.word(i), y.word(i));
        same("stood(" + i + ")", x.stood(i), y.stood(i));
        same("letters(" + place + ")", x.letters(place), y.letters(place));
        same("whose(" + number + ")", x.whose(number), y.whose(number));
        same("chain(" + number + ", " + at + ")", x.chain(number, at), y.chain(number, at));
    }

    private void stepAsks() {
        int t = about(count(3)), what = about(2), k = about(count(4)), n = about(61), sick = about(7);
        int row = about(count(1)), kind = about(6);
        switch (below(7)) {
            case 0:
                same("clean(" + row + ", " + what + ")", x.clean(row, what), y.clean(row, what));
                break;
            case 1:
                same("well(" + t + ", " + sick + ", " + what + ")", x.well(t, sick, what), y.well(t, sick, what));
                break;
            case 2:
                same("boat(" + n + ", " + what + ")", x.boat(n, what), y.boat(n, what));
                break;
            case 3:
                same("waits(" + t + ")", x.waits(t), y.waits(t));
                break;
            case 4:
                same("rate(" + kind + ", " + k + ")", x.rate(kind, k), y.rate(kind, k));
                same("trace()", x.trace(), y.trace());
                break;
            case 5:
                askPlan();
                break;
            default:
                if (below(count(3) > 4 ? 20 : 4) == 0) {
                    askBest();
                }
                break;
        }
    }

    private void askPlan() {
        int figures = 0, t = noneOr(count(3));
        for (int i = count(3); i > 0; i--) {
            figures = figures * 10 + (below(40) == 0 ? below(10) : below(count(1)));
        }
        figures = below(30) == 0 ? about(1000000) : figures;
        same("plan(" + figures + ", " + t + ")", x.plan(figures, t), y.plan(figures, t));
    }

    private void askBest() {
        int n = about(below(2) == 0 ? 90 : 201), t = noneOr(count(3));
        same("most(" + n + ", " + t + ")", x.most(n, t), y.most(n, t));
        same("soonest(" + t + ")", x.soonest(t), y.soonest(t));
    }

    private void stepImages() {
        int image = about(2);
        if (below(2) == 0) {
            same("keep(" + image + ")", x.keep(image), y.keep(image));
        } else {
            same("back(" + image + ")", x.back(image), y.back(image));
        }
    }

    /** After each step a little of what can be looked at. */
    private void look() {
        int now = about(6), count = about(8);
        same("now(" + now + ")", x.now(now), y.now(now));
        same("count(" + count + ")", x.count(count), y.count(count));
        int t = about(count(3)), k = about(count(4)), what = about(5);
        same("traveller(" + t + ", " + what + ")", x.traveller(t, what), y.traveller(t, what));
        same("clerk(" + k + ", " + what + ")", x.clerk(k, what), y.clerk(k, what));
    }

    private void lookAtAll() {
        for (int what = -1; what <= 8; what++) {
            same("now(" + what + ")", x.now(what), y.now(what));
            same("count(" + what + ")", x.count(what), y.count(what));
        }
        for (int t = 0; t < 6; t++) {
            for (int what = 2; what < 5; what++) {
                same("traveller(" + t + ", " + what + ")", x.traveller(t, what), y.traveller(t, what));
            }
        }
        same("trace()", x.trace(), y.trace());
    }
}
