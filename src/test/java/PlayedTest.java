import java.math.BigInteger;
import java.util.ArrayList;
import java.util.Arrays;
import java.util.List;
import java.util.Random;

/**
 * What the class says without a change (plans, boats, clerks, letters) is played with its own calls
 * that do something, on islands that are the same ones each time.
 */
public final class PlayedTest {
    private static final int NONE = -9, NOT_ONE = -5, LOST = 10;
    private static final Due due = new Due();

    private final Random random;
    private final String text;
    private final int rows, travellers, clerks;

    private PlayedTest(int run) {
        random = new Random(run);
        rows = 1 + below(3);
        travellers = below(5);
        clerks = below(5);
        StringBuilder told = new StringBuilder();
        told.append("q").append(1 + below(run % 4 == 0 ? 40 : 6)).append(";r").append(rows);
        told.append(";b").append(1 + below(9)).append(";");
        for (int t = 0; t < travellers; t++) {
            told.append("t").append(below(run % 3 == 0 ? 41 : 9)).append(" ").append(below(11)).append(";");
        }
        for (int k = 0; k < clerks; k++) {
            int m = below(4);
            String mercy = below(5) == 0 ? "10 10" : m + " " + (m + 1 + below(3)) % 4;
            told.append("k").append(below(16)).append(" ").append(mercy).append(";");
        }
        text = told.toString();
    }

    public static void main(String[] args) {
        for (int run = 0; run < 300 && due.wrong() == 0; run++) {
            PlayedTest test = new PlayedTest(run);
            test.plans();
            test.waitsAndBoats();
            test.spots();
            test.rowsOfClerks();
            test.whatStood();
            if (due.wrong() != 0) {
                System.out.println("run " + run + ": " + test.text);
            }
        }
        due.end();
    }

    private int below(int n) {
        return random.nextInt(n);
    }

    private SmokedLetters anew() {
        return Due.told(text);
    }

    // ---- plans

    private void plans() {
        List<int[]> all = new ArrayList<>();
        allPlans(new int[travellers], 0, all);
        List<int[]> days = new ArrayList<>();
        for (int[] plan : all) {
            days.add(play(plan));
        }
        mostIs(all, days);
        soonestIs(all, days);
    }

    private void allPlans(int[] plan, int t, List<int[]> all) {
        if (t == travellers) {
            all.add(plan.clone());
            return;
        }
        for (int row = 0; row < rows; row++) {
            plan[t] = row;
            allPlans(plan, t + 1, all);
        }
    }

    /** Lets days go by till all have sailed; the days on which they did. */
    private int[] play(int[] plan) {
        SmokedLetters x = anew();
        // Asked once, so that a long plan stays within an object's 512 calls.
        int[] comes = new int[travellers], sailed = new int[travellers];
        for (int t = 0; t < travellers; t++) {
            comes[t] = x.traveller(t, 0);
        }
        int who = 0, gone = 0, figures = 0;
        for (int today = 0; gone < travellers; today++) {
            for (int t = 0; t < travellers && who != 0; t++) {
                if ((who >> t & 1) != 0 && x.sails(t) > 0) {
                    sailed[t] = today;
                    gone++;
                }
            }
            for (int t = 0; t < travellers; t++) {
                if (comes[t] == today) {
                    x.puts(t, plan[t]);
                }
            }
            if (gone < travellers) {
                who = x.day();
            }
        }
        for (int t = travellers - 1; t >= 0; t--) {
            figures = figures * 10 + plan[t];
        }
        SmokedLetters asked = anew();
        for (int t = 0; t < travellers; t++) {
            due.is("14: played plan " + figures + ", day of " + t, asked.plan(figures, t), sailed[t]);
        }
        due.is("14: played plan " + figures + ", vinegar", asked.plan(figures, NONE), x.now(1));
        return sailed;
    }

    private void mostIs(List<int[]> all, List<int[]> days) {
        int n = below(60), best = -1, first = 0;
        for (int i = 0; i < all.size(); i++) {
            int sailed = (int) Arrays.stream(days.get(i)).filter(d -> d <= n).count();
            if (sailed > best) {
                best = sailed;
                first = i;
            }
        }
        SmokedLetters x = anew();
        due.is("12: played most by " + n, x.most(n, NONE), best);
        for (int t = 0; t < travellers; t++) {
            due.is("12: played most by " + n + ", row of " + t, x.most(n, t), all.get(first)[t]);
        }
    }

    private void soonestIs(List<int[]> all, List<int[]> days) {
        int best = Integer.MAX_VALUE, sum = 0, first = 0;
        for (int i = 0; i < all.size(); i++) {
            int last = Arrays.stream(days.get(i)).max().orElse(0), together = Arrays.stream(days.get(i)).sum();
            if (last < best || last == best && together < sum) {
                best = last;
                sum = together;
                first = i;
            }
        }
        SmokedLetters x = anew();
        due.is("13: played soonest", x.soonest(NONE), best);
        for (int t = 0; t < travellers; t++) {
            due.is("13: played soonest, row of " + t, x.soonest(t), all.get(first)[t]);
        }
    }

    // ---- days

    /** An object on which some have come and some have sailed; the same one for the same seed. */
    private SmokedLetters used(long seed) {
        Random steps = new Random(seed);
        SmokedLetters x = anew();
        for (int today = steps.nextInt(30); today > 0; today--) {
            for (int t = 0; t < travellers; t++) {
                if (steps.nextInt(4) == 0) {
                    x.puts(t, steps.nextInt(rows));
                }
                if (steps.nextInt(8) == 0) {
                    x.sails(t);
                }
            }
            x.day();
        }
        return x;
    }

    private void waitsAndBoats() {
        long seed = random.nextLong();
        int n = 1 + below(below(4) == 0 ? 60 : 6);
        int[] since = new int[travellers];
        Arrays.fill(since, NONE);
        SmokedLetters x = used(seed);
        int boat = NONE, takes = 0;
        for (int later = 0; later <= 60; later++) {
            int who = later == 0 ? x.now(2) : x.day();
            for (int t = 0; t < travellers; t++) {
                since[t] = since[t] == NONE && (who >> t & 1) != 0 ? later : since[t];
            }
            if (later <= n && Integer.bitCount(who) > takes && x.now(4) == 1) {
                takes = Integer.bitCount(who);
                boat = x.now(0);
            }
        }
        SmokedLetters asked = used(seed);
        for (int t = 0; t < travellers; t++) {
            boolean inRow = asked.traveller(t, 2) != NONE;
            due.is("15: played days of " + t, asked.waits(t), inRow ? since[t] : SmokedLetters.STATE);
        }
        due.is("16: played boat within " + n, asked.boat(n, 0), boat);
        due.is("16: played boat within " + n + ", how many", asked.boat(n, 1), boat == NONE ? NONE : takes);
    }

    // ---- spots

    private void spots() {
        SmokedLetters x = used(random.nextLong());
        for (int row = 0; row < rows; row++) {
            long upper = 1, lower = 1;
            for (int t = 0; t < travellers; t++) {
                boolean inRow = x.traveller(t, 2) == row;
                upper *= inRow ? 10 - x.traveller(t, 1) : 1;
                lower *= inRow ? 10 : 1;
            }
            due.holds("17: row " + row, x.clean(row, 0) * lower == x.clean(row, 1) * upper);
            leastTerms("17: row " + row, x.clean(row, 0), x.clean(row, 1));
        }
        for (int k = 0; k <= 6 && travellers > 0; k++) {
            wellTogether(k);
        }
    }

    private static void leastTerms(String name, long upper, long lower) {
        due.is(name + ", least terms", BigInteger.valueOf(upper).gcd(BigInteger.valueOf(lower)).longValue(), 1);
    }

    /** If just k are sick, those who are well are as many as the others, taken together. */
    private void wellTogether(int k) {
        SmokedLetters x = anew();
        int least = 0, most = 0;
        for (int t = 0; t < travellers; t++) {
            least += x.traveller(t, 1) == 10 ? 1 : 0;
            most += x.traveller(t, 1) > 0 ? 1 : 0;
        }
        boolean canBe = k >= least && k <= most;
        BigInteger upper = BigInteger.ZERO, lower = BigInteger.ONE;
        for (int t = 0; t < travellers; t++) {
            long above = x.well(t, k, 0), below = x.well(t, k, 1);
            due.is("18: so many can't be", above == NONE && below == NONE ? 1 : 0, canBe ? 0 : 1);
            if (canBe) {
                leastTerms("18: well " + t, above, below);
                upper = upper.multiply(BigInteger.valueOf(below)).add(lower.multiply(BigInteger.valueOf(above)));
                lower = lower.multiply(BigInteger.valueOf(below));
            }
        }
        if (canBe) {
            due.holds("18: well together, " + k + " sick", upper.equals(lower.multiply(BigInteger.valueOf(travellers - k))));
        }
    }

    // ---- letters

    private int[] randomLetter(int words) {
        int[] letter = new int[words];
        for (int i = 0; i < words; i++) {
            letter[i] = below(4);
        }
        return letter;
    }

    /** What these clerks, one behind another, make of a letter. */
    private int[] smoked(int[] letter, List<Integer> row) {
        SmokedLetters x = anew();
        Due.write(x, letter);
        for (int k : row) {
            x.smokes(k);
        }
        int[] made = new int[letter.length];
        for (int i = 0; i < made.length; i++) {
            made[i] = x.word(i);
        }
        return made;
    }

    private void rowsOfClerks() {
        int[] from = randomLetter(1 + below(2));
        SmokedLetters x = anew();
        Due.write(x, below(3) == 0 ? randomLetter(from.length) : from);
        for (int i = below(4); i > 0 && clerks > 0; i--) {
            x.smokes(below(clerks));
        }
        int[] wanted = new int[from.length];
        for (int i = 0; i < wanted.length; i++) {
            wanted[i] = x.word(i);
        }
        int number = Due.number(from), bits = 0;
        for (int k = 0; k < clerks; k++) {
            bits |= Arrays.equals(smoked(from, List.of(k)), wanted) ? 1 << k : 0;
        }
        due.is("27: played clerks of " + number, x.whose(number), bits);
        List<Integer> row = firstRow(from, wanted);
        due.is("28: played row of " + number, x.chain(number, -1), row == null ? NONE : row.size());
        for (int i = 0; i < 5; i++) {
            int want = row == null ? NONE : i < row.size() ? row.get(i) : NOT_ONE;
            due.is("28: played row of " + number + ", " + i, x.chain(number, i), want);
        }
    }

    /** Rows that are longer stand behind all shorter ones; rows as long stand by numbers. */
    private List<Integer> firstRow(int[] from, int[] wanted) {
        List<List<Integer>> tries = new ArrayList<>();
        tries.add(List.of());
        for (int i = 0; i < tries.size(); i++) {
            if (Arrays.equals(smoked(from, tries.get(i)), wanted)) {
                return tries.get(i);
            }
            for (int k = 0; k < clerks; k++) {
                if (!tries.get(i).contains(k)) {
                    List<Integer> longer = new ArrayList<>(tries.get(i));
                    longer.add(k);
                    tries.add(longer);
                }
            }
        }
        return null;
    }

    /** Half of the runs have copies of one letter; in others the copies may be of none. */
    private void whatStood() {
        if (clerks == 0) {
            return;
        }
        int words = 1 + below(3);
        boolean copies = below(2) == 0;
        int[] one = randomLetter(words), stood = new int[words];
        Arrays.fill(stood, 1023);
        SmokedLetters x = anew();
        for (int b = 1 + below(4); b > 0; b--) {
            int k = below(clerks);
            x.tears();
            Due.write(x, copies ? one : randomLetter(words));
            if (copies || below(2) == 0) {
                x.smokes(k);
            }
            x.brown(k);
            for (int i = 0; i < words; i++) {
                stood[i] &= copiedFrom(x.word(i), k);
            }
        }
        int ways = 1;
        for (int i = 0; i < words; i++) {
            ways *= Integer.bitCount(stood[i]);
            due.is("25: played place " + i, x.stood(i), stood[i]);
        }
        due.is("26: played letters", x.letters(NONE), ways);
        for (int i = 0; i < words; i++) {
            boolean sure = Integer.bitCount(stood[i]) == 1;
            int want = ways == 0 ? NONE : sure ? Integer.numberOfTrailingZeros(stood[i]) : NOT_ONE;
            due.is("26: played place " + i, x.letters(i), want);
            due.holds("25: what stood there may have stood there", !copies || (x.stood(i) >> one[i] & 1) != 0);
        }
    }

    private int copiedFrom(int copy, int k) {
        int bits = 0;
        for (int word = 0; word < LOST; word++) {
            bits |= smoked(new int[] {word}, List.of(k))[0] == copy ? 1 << word : 0;
        }
        return bits;
    }
}
