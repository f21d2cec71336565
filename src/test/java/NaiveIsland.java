import java.util.ArrayDeque;
import java.util.ArrayList;
import java.util.Arrays;
import java.util.Deque;
import java.util.List;
import java.util.regex.Matcher;
import java.util.regex.Pattern;

/**
 * The document written a second time, in the slowest and plainest way: each day goes by, each
 * letter is tried. RandomRunsTest holds the class against it.
 */
final class NaiveIsland {
    static final int BAD = -1, STATE = -2, FULL = -3, NONE = -9, NO = -1000000;

    private static final class Traveller {
        int comes, chance, row = NONE, days = 0;
        boolean gone = false;

        Traveller copy() {
            Traveller other = new Traveller();
            other.comes = comes;
            other.chance = chance;
            other.row = row;
            other.days = days;
            other.gone = gone;
            return other;
        }
    }

    private static final class State {
        int day = 0, vinegar = 0;
        List<Traveller> people = new ArrayList<>();
        List<Integer> letter = new ArrayList<>();

        State copy() {
            State other = new State();
            other.day = day;
            other.vinegar = vinegar;
            for (Traveller t : people) {
                other.people.add(t.copy());
            }
            other.letter.addAll(letter);
            return other;
        }
    }

    private final StringBuilder text = new StringBuilder();
    private int hold = 10, rows = 2, boats = 1;
    private List<int[]> clerks = new ArrayList<>();
    private State s = new State();
    private Deque<State> past = new ArrayDeque<>();
    private State[] images = new State[2];
    private List<List<Integer>> brownLetters = new ArrayList<>();
    private List<Integer> brownClerks = new ArrayList<>();
    private long trace = 0;

    int type(int letter) {
        if (letter < 0 || letter > 255) {
            return BAD;
        }
        if (text.length() == 200) {
            return FULL;
        }
        text.append((char) letter);
        return text.length();
    }

    int clear() {
        int had = text.length();
        text.setLength(0);
        return had;
    }

    /** Cuts the text into tokens first, and then takes them one by one. */
    int island() {
        List<String> tokens = new ArrayList<>();
        List<Integer> places = new ArrayList<>();
        Matcher m = Pattern.compile("[0-9]+|[^ ]", Pattern.DOTALL).matcher(text);
        while (m.find()) {
            tokens.add(m.group());
            places.add(m.start());
        }
        places.add(text.length());
        int hold = 10, rows = 2, boats = 1, items = 0;
        String seen = "";
        List<int[]> people = new ArrayList<>(), clerks = new ArrayList<>();
        int at = 0;
        while (at < tokens.size()) {
            String item = tokens.get(at);
            boolean known = "qrbtk".contains(item) && item.length() == 1;
            boolean again = "qrb".contains(item) && seen.contains(item);
            if (!known || again || (item.equals("t") && people.size() == 6)
                    || (item.equals("k") && clerks.size() == 4)) {
                return -10 - places.get(at);
            }
            int wanted = item.equals("k") ? 3 : item.equals("t") ? 2 : 1;
            int[] numbers = new int[wanted];
            for (int i = 0; i < wanted; i++) {
                at++;
                int value = at < tokens.size() ? number(tokens.get(at)) : -1;
                if (value < 0 || !may(item, i, value, numbers)) {
                    return -10 - places.get(at);
                }
                numbers[i] = value;
            }
            at++;
            if (at >= tokens.size() || !tokens.get(at).equals(";")) {
                return -10 - places.get(Math.min(at, tokens.size()));
            }
            at++;
            items++;
            seen += item;
            if (item.equals("q")) {
                hold = numbers[0];
            } else if (item.equals("r")) {
                rows = numbers[0];
            } else if (item.equals("b")) {
                boats = numbers[0];
            } else if (item.equals("t")) {
                people.add(numbers);
            } else {
                clerks.add(numbers);
            }
        }
        this.hold = hold;
        this.rows = rows;
        this.boats = boats;
        this.clerks = clerks;
        text.setLength(0);
        s = new State();
        for (int[] numbers : people) {
            Traveller t = new Traveller();
            t.comes = numbers[0];
            t.chance = numbers[1];
            s.people.add(t);
        }
        past.clear();
        images = new State[2];
        brownLetters.clear();
        brownClerks.clear();
        return items;
    }

    private static int number(String token) {
        return token.matches("0|[1-9][0-9]{0,3}") && Integer.parseInt(token) <= 1023 ? Integer.parseInt(token) : -1;
    }

    private static boolean may(String item, int i, int value, int[] numbers) {
        switch (item) {
            case "q":
                return 1 <= value && value <= 40;
            case "r":
                return 1 <= value && value <= 3;
            case "b":
                return 1 <= value && value <= 9;
            case "t":
                return value <= (i == 0 ? 40 : 10);
            default:
                if (i == 2) {
                    return (numbers[1] == 10) == (value == 10) && value <= 10 && (value == 10 || value != numbers[1]);
                }
                return value <= (i == 0 ? 1023 : 10);
        }
    }

    private boolean person(int t) {
        return t >= 0 && t < s.people.size();
    }

    private boolean noneOrPerson(int t) {
        return t == NONE || person(t);
    }

    private boolean isClerk(int k) {
        return k >= 0 && k < clerks.size();
    }

    int traveller(int t, int what) {
        if (!person(t) || what < 0 || what > 4) {
            return BAD;
        }
        Traveller he = s.people.get(t);
        return new int[] {he.comes, he.chance, he.row, he.days, he.gone ? 1 : 0}[what];
    }

    int clerk(int k, int what) {
        return !isClerk(k) || what < 0 || what > 2 ? BAD : clerks.get(k)[what];
    }

    private int leaving() {
        int bits = 0;
        for (int t = 0; t < s.people.size(); t++) {
            if (s.people.get(t).row != NONE && s.people.get(t).days >= hold) {
                bits |= 1 << t;
            }
        }
        return bits;
    }

    private int goneBits() {
        int bits = 0;
        for (int t = 0; t < s.people.size(); t++) {
            bits |= s.people.get(t).gone ? 1 << t : 0;
        }
        return bits;
    }

    int now(int what) {
        if (what < 0 || what > 5) {
            return BAD;
        }
        return new int[] {s.day, s.vinegar, leaving(), goneBits(), s.day % boats == 0 ? 1 : 0, past.size()}[what];
    }

    private void remember() {
        past.push(s.copy());
        if (past.size() > 10) {
            past.removeLast();
        }
    }

    private int in(int row) {
        int n = 0;
        for (Traveller t : s.people) {
            n += t.row == row ? 1 : 0;
        }
        return n;
    }

    private void putInto(Traveller he, int row) {
        he.row = row;
        for (Traveller t : s.people) {
            if (t.row == row) {
                t.days = 0;
            }
        }
    }

    private void goBy() {
        for (int row = 0; row < rows; row++) {
            s.vinegar += in(row) > 0 ? 1 : 0;
            s.vinegar += in(row) / 2;
        }
        for (Traveller t : s.people) {
            t.days += t.row != NONE ? 1 : 0;
        }
        s.day++;
    }

    private void leave(Traveller he) {
        he.row = NONE;
        he.days = 0;
        he.gone = true;
    }

    int puts(int t, int row) {
        if (!person(t) || row < 0 || row >= rows) {
            return BAD;
        }
        Traveller he = s.people.get(t);
        if (he.gone || he.row != NONE || he.comes > s.day) {
            return STATE;
        }
        remember();
        he = s.people.get(t);
        putInto(he, row);
        return in(row);
    }

    int day() {
        if (s.day == 200) {
            return STATE;
        }
        remember();
        goBy();
        return leaving();
    }

    int sails(int t) {
        if (!person(t)) {
            return BAD;
        }
        if ((leaving() & 1 << t) == 0 || s.day % boats != 0) {
            return STATE;
        }
        remember();
        leave(s.people.get(t));
        return Integer.bitCount(goneBits());
    }

    int undo() {
        if (past.isEmpty()) {
            return STATE;
        }
        s = past.pop();
        return past.size();
    }

    /** Lets a plan happen: the days on which they sail, and last the vinegar. */
    private int[] happens(int[] plan) {
        State kept = s;
        s = new State();
        for (Traveller t : kept.people) {
            Traveller anew = new Traveller();
            anew.comes = t.comes;
            s.people.add(anew);
        }
        int[] answer = new int[plan.length + 1];
        while (Integer.bitCount(goneBits()) < plan.length) {
            for (int t = 0; t < plan.length; t++) {
                if ((leaving() & 1 << t) != 0 && s.day % boats == 0) {
                    leave(s.people.get(t));
                    answer[t] = s.day;
                }
            }
            for (int t = 0; t < plan.length; t++) {
                if (s.people.get(t).comes == s.day) {
                    putInto(s.people.get(t), plan[t]);
                }
            }
            if (Integer.bitCount(goneBits()) < plan.length) {
                goBy();
            }
        }
        answer[plan.length] = s.vinegar;
        s = kept;
        return answer;
    }

    /** All plans, in their order. */
    private void allPlans(int t, int[] plan, List<int[]> all) {
        if (t == plan.length) {
            all.add(plan.clone());
            return;
        }
        for (int row = 0; row < rows; row++) {
            plan[t] = row;
            allPlans(t + 1, plan, all);
        }
    }

    private List<int[]> allPlans() {
        List<int[]> all = new ArrayList<>();
        allPlans(0, new int[s.people.size()], all);
        return all;
    }

    int most(int n, int t) {
        if (n < 0 || n > 200 || !noneOrPerson(t)) {
            return BAD;
        }
        int best = -1;
        int[] bestPlan = null;
        for (int[] plan : allPlans()) {
            int[] days = happens(plan);
            int sailed = 0;
            for (int i = 0; i < plan.length; i++) {
                sailed += days[i] <= n ? 1 : 0;
            }
            if (sailed > best) {
                best = sailed;
                bestPlan = plan;
            }
        }
        return t == NONE ? best : bestPlan[t];
    }

    int soonest(int t) {
        if (!noneOrPerson(t)) {
            return BAD;
        }
        int bestLast = Integer.MAX_VALUE, bestSum = Integer.MAX_VALUE;
        int[] bestPlan = null;
        for (int[] plan : allPlans()) {
            int[] days = Arrays.copyOf(happens(plan), plan.length);
            int last = Arrays.stream(days).max().orElse(0), sum = Arrays.stream(days).sum();
            if (last < bestLast || (last == bestLast && sum < bestSum)) {
                bestLast = last;
                bestSum = sum;
                bestPlan = plan;
            }
        }
        return t == NONE ? bestLast : bestPlan[t];
    }

    int plan(int figures, int t) {
        if (figures < 0 || !noneOrPerson(t)) {
            return BAD;
        }
        String told = String.format("%06d", figures);
        int[] plan = new int[s.people.size()];
        for (int i = 0; i < told.length(); i++) {
            int row = told.charAt(told.length() - 1 - i) - '0';
            if (i < plan.length ? row >= rows : row != 0) {
                return BAD;
            }
            if (i < plan.length) {
                plan[i] = row;
            }
        }
        return happens(plan)[t == NONE ? plan.length : t];
    }

    int waits(int t) {
        if (!person(t)) {
            return BAD;
        }
        Traveller he = s.people.get(t);
        return he.row == NONE ? STATE : he.days >= hold ? 0 : hold - he.days;
    }

    int boat(int n, int what) {
        if (n < 1 || n > 60 || what < 0 || what > 1) {
            return BAD;
        }
        State kept = s;
        s = s.copy();
        int day = NONE, takes = 0;
        for (int i = 0; i <= n; i++) {
            if (s.day % boats == 0 && Integer.bitCount(leaving()) > takes) {
                day = s.day;
                takes = Integer.bitCount(leaving());
            }
            goBy();
        }
        s = kept;
        return day == NONE ? NONE : what == 0 ? day : takes;
    }

    private static long least(long upper, long lower, int what) {
        for (long d = Math.max(upper, lower); d > 1; d--) {
            if (upper % d == 0 && lower % d == 0) {
                upper /= d;
                lower /= d;
            }
        }
        return what == 0 ? upper : lower;
    }

    long clean(int row, int what) {
        if (row < 0 || row >= rows || what < 0 || what > 1) {
            return BAD;
        }
        long upper = 1, lower = 1;
        for (Traveller t : s.people) {
            if (t.row == row) {
                upper *= 10 - t.chance;
                lower *= 10;
            }
        }
        return least(upper, lower, what);
    }

    /** Each set of sick ones by itself. */
    long well(int t, int k, int what) {
        if (!person(t) || k < 0 || k > 6 || what < 0 || what > 1) {
            return BAD;
        }
        long upper = 0, lower = 0;
        for (int sick = 0; sick < 1 << s.people.size(); sick++) {
            if (Integer.bitCount(sick) != k) {
                continue;
            }
            long weight = 1;
            for (int i = 0; i < s.people.size(); i++) {
                int chance = s.people.get(i).chance;
                weight *= (sick & 1 << i) != 0 ? chance : 10 - chance;
            }
            lower += weight;
            upper += (sick & 1 << t) == 0 ? weight : 0;
        }
        return lower == 0 ? NONE : least(upper, lower, what);
    }

    int writes(int word) {
        if (word < 0 || word > 9) {
            return BAD;
        }
        if (s.letter.size() == 5) {
            return FULL;
        }
        remember();
        s.letter.add(word);
        return s.letter.size();
    }

    int tears() {
        remember();
        int had = s.letter.size();
        s.letter.clear();
        return had;
    }

    private List<Integer> smoke(List<Integer> letter, int k) {
        List<Integer> made = new ArrayList<>();
        for (int word : letter) {
            if (word == 10 || (clerks.get(k)[0] & 1 << word) != 0) {
                made.add(10);
            } else if (word == clerks.get(k)[1]) {
                made.add(clerks.get(k)[2]);
            } else {
                made.add(word);
            }
        }
        return made;
    }

    int smokes(int k) {
        if (!isClerk(k)) {
            return BAD;
        }
        remember();
        s.letter = smoke(s.letter, k);
        int lost = 0;
        for (int word : s.letter) {
            lost += word == 10 ? 1 : 0;
        }
        return lost;
    }

    int word(int i) {
        return i < 0 || i >= s.letter.size() ? BAD : s.letter.get(i);
    }

    int brown(int k) {
        if (!isClerk(k)) {
            return BAD;
        }
        if (s.letter.isEmpty() || (!brownLetters.isEmpty() && brownLetters.get(0).size() != s.letter.size())) {
            return STATE;
        }
        if (brownLetters.size() == 4) {
            return FULL;
        }
        brownLetters.add(new ArrayList<>(s.letter));
        brownClerks.add(k);
        return brownLetters.size();
    }

    int burn() {
        int had = brownLetters.size();
        brownLetters.clear();
        brownClerks.clear();
        return had;
    }

    private boolean brownPlace(int i) {
        return !brownLetters.isEmpty() && i >= 0 && i < brownLetters.get(0).size();
    }

    /** Word by word: a place is looked at by itself. */
    int stood(int i) {
        if (!brownPlace(i)) {
            return BAD;
        }
        int bits = 0;
        for (int word = 0; word < 10; word++) {
            boolean may = true;
            for (int b = 0; b < brownLetters.size(); b++) {
                may &= smoke(List.of(word), brownClerks.get(b)).get(0).equals(brownLetters.get(b).get(i));
            }
            bits |= may ? 1 << word : 0;
        }
        return bits;
    }

    private static List<Integer> letterOf(int number) {
        String told = Integer.toString(number, 11);
        if (number < 0 || !told.matches("1[0-9]{1,5}")) {
            return null;
        }
        List<Integer> letter = new ArrayList<>();
        for (char c : told.substring(1).toCharArray()) {
            letter.add(c - '0');
        }
        return letter;
    }

    /** Each letter by itself. */
    int letters(int i) {
        if (i != NONE && !brownPlace(i)) {
            return BAD;
        }
        if (brownLetters.isEmpty()) {
            return 0;
        }
        int length = brownLetters.get(0).size();
        int ways = 0, bits = 0;
        for (int number = 0; number < Math.pow(10, length); number++) {
            List<Integer> letter = new ArrayList<>();
            for (char c : String.format("%0" + length + "d", number).toCharArray()) {
                letter.add(c - '0');
            }
            boolean may = true;
            for (int b = 0; b < brownLetters.size() && may; b++) {
                may = smoke(letter, brownClerks.get(b)).equals(brownLetters.get(b));
            }
            if (may) {
                ways++;
                bits |= i == NONE ? 0 : 1 << letter.get(i);
            }
        }
        if (i == NONE) {
            return ways;
        }
        return ways == 0 ? NONE : Integer.bitCount(bits) == 1 ? Integer.numberOfTrailingZeros(bits) : -5;
    }

    int whose(int number) {
        List<Integer> letter = letterOf(number);
        if (letter == null) {
            return BAD;
        }
        int bits = 0;
        for (int k = 0; k < clerks.size(); k++) {
            bits |= smoke(letter, k).equals(s.letter) ? 1 << k : 0;
        }
        return bits;
    }

    /** All rows of clerks, shorter ones first, and by numbers. */
    int chain(int number, int i) {
        List<Integer> letter = letterOf(number);
        if (letter == null || i < -1) {
            return BAD;
        }
        List<List<Integer>> tried = new ArrayList<>();
        tried.add(new ArrayList<>());
        for (int at = 0; at < tried.size(); at++) {
            List<Integer> row = tried.get(at), made = letter;
            for (int k : row) {
                made = smoke(made, k);
            }
            if (made.equals(s.letter)) {
                return i == -1 ? row.size() : i < row.size() ? row.get(i) : -5;
            }
            for (int k = 0; k < clerks.size(); k++) {
                if (!row.contains(k)) {
                    List<Integer> longer = new ArrayList<>(row);
                    longer.add(k);
                    tried.add(longer);
                }
            }
        }
        return NONE;
    }

    int rate(int kind, int k) {
        if (kind < 0 || kind > 5 || !isClerk(k)) {
            return NO;
        }
        int burnt = Integer.bitCount(clerks.get(k)[0]), m = clerks.get(k)[1], n = clerks.get(k)[2];
        int gone = Integer.bitCount(goneBits());
        trace += new long[] {1, 11, 101, 1011, 10101, 100001}[kind];
        return new int[] {burnt, burnt + m, burnt - n, 2 * (burnt + m), burnt - n + k, burnt + gone}[kind];
    }

    int keep(int image) {
        if (image < 0 || image > 1) {
            return BAD;
        }
        images[image] = s.copy();
        return s.day;
    }

    int back(int image) {
        if (image < 0 || image > 1) {
            return BAD;
        }
        if (images[image] == null) {
            return STATE;
        }
        s = images[image].copy();
        past.clear();
        return s.day;
    }

    int count(int what) {
        if (what < 0 || what > 7) {
            return BAD;
        }
        return new int[] {hold, rows, boats, s.people.size(), clerks.size(), s.letter.size(),
            brownLetters.size(), text.length()}[what];
    }

    long trace() {
        return trace;
    }
}
