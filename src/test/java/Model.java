import java.math.BigInteger;
import java.nio.charset.StandardCharsets;
import java.util.ArrayDeque;
import java.util.ArrayList;
import java.util.Arrays;
import java.util.Deque;
import java.util.LinkedHashMap;
import java.util.LinkedHashSet;
import java.util.List;
import java.util.Map;
import java.util.NoSuchElementException;
import java.util.Set;
import java.util.TreeSet;
import java.util.regex.Matcher;
import java.util.regex.Pattern;

/** The document told a second time, as slowly and plainly as can be, for ModelTest to compare with. */
public final class Model {
    private static final List<String> SHAPES = List.of("tower", "arch", "obelisk", "pyramid", "grotto");
    private static final Map<String, String> LINES = new LinkedHashMap<>();

    static {
        LINES.put("shire", "wind 100 rot 9");
        LINES.put("folly", "NEW SHAPE sound 99");
        LINES.put("sends", "SENDER UNLIKE");
        LINES.put("hermit", "HIRER");
        LINES.put("estate", "NEW FOLLY debt 99");
        LINES.put("veiled", "VEILED");
        LINES.put("signed", "FOLLY SAY ANSWER");
    }

    /** What a text tells. */
    static final class Text {
        int wind;
        int rot;
        boolean opened;
        final List<String> follies = new ArrayList<>();
        final List<String> estates = new ArrayList<>();
        final List<Integer> shapes = new ArrayList<>();
        final List<Integer> sounds = new ArrayList<>();
        final Map<Integer, Integer> sends = new LinkedHashMap<>();
        final Set<Integer> hermits = new TreeSet<>();
        final List<Integer> estateFollies = new ArrayList<>();
        final List<Integer> debts = new ArrayList<>();
        final Set<Integer> veiled = new LinkedHashSet<>();
        final List<int[]> signed = new ArrayList<>();
    }

    /** All that is so at one time. */
    static final class State {
        int year;
        int[] shapes;
        int[] sound;
        int[] sends;
        boolean[] hermit;

        State copy() {
            State copy = new State();
            copy.year = year;
            copy.shapes = shapes.clone();
            copy.sound = sound.clone();
            copy.sends = sends.clone();
            copy.hermit = hermit.clone();
            return copy;
        }

        State aged(int rot) {
            State aged = copy();
            aged.year++;
            for (int f = 0; f < sound.length; f++) {
                aged.sound[f] = Math.max(0, sound[f] - rot);
            }
            return aged;
        }
    }

    /** Where a letter went, and what each folly there answered. */
    static final class Way {
        final List<Integer> follies = new ArrayList<>();
        final List<Integer> answers = new ArrayList<>();
        int signer = -2;
        int outcome = -2;
    }

    private final StringBuilder tape = new StringBuilder();
    private Text text;
    private State now;
    private final Deque<State> past = new ArrayDeque<>();
    private final List<State> images = new ArrayList<>();
    private int trouble;
    private int fault;
    private int place;

    // ---- the text

    public int feed(int a, int b, int c, int d, int e) {
        if (tape.length() + 20 > 900) {
            return -1;
        }
        for (int number : new int[] {a, b, c, d, e}) {
            byte[] four = BigInteger.valueOf(number & 0xffffffffL | 1L << 32).toByteArray();
            tape.append(new String(four, 1, 4, StandardCharsets.ISO_8859_1));
        }
        return tape.length();
    }

    public int shire(int n) {
        if (n < 0 || n > tape.length()) {
            trouble = 2;
            return -1;
        }
        String bytes = tape.substring(0, n);
        tape.setLength(0);
        Text draft = new Text();
        fault = read(bytes, draft);
        if (fault != 0) {
            trouble = 4;
            return -1;
        }
        trouble = 0;
        text = draft;
        now = yearZero();
        past.clear();
        images.clear();
        return text.follies.size();
    }

    private State yearZero() {
        State state = new State();
        int count = text.follies.size();
        state.shapes = text.shapes.stream().mapToInt(x -> x).toArray();
        state.sound = text.sounds.stream().mapToInt(x -> x).toArray();
        state.sends = new int[count];
        state.hermit = new boolean[count];
        for (int f = 0; f < count; f++) {
            state.sends[f] = text.sends.getOrDefault(f, -2);
            state.hermit[f] = text.hermits.contains(f);
        }
        return state;
    }

    /** The FAULT, or 0; every TOKEN is held against a row of what may stand there. */
    private int read(String bytes, Text draft) {
        Matcher matcher = Pattern.compile("[a-z]+|[0-9]+|[^ ]").matcher(bytes);
        List<String> due = null;
        int first = -1;
        int shape = -1;
        int say = -1;
        String fresh = null;
        String line = "";
        int step = 0;
        while (matcher.find()) {
            String token = matcher.group();
            place = matcher.start();
            boolean word = token.matches("[a-z]{1,8}");
            boolean whole = token.matches("[0-9]{1,3}");
            if (!word && !whole && !token.equals(";")) {
                return 1;
            }
            if (due == null) {
                if (!LINES.containsKey(token)) {
                    return 1;
                }
                if (token.equals("shire") && draft.opened) {
                    return 3;
                }
                if (token.equals("folly") && draft.follies.size() == 6
                    || token.equals("estate") && draft.estates.size() == 5
                    || token.equals("veiled") && draft.veiled.size() == 3
                    || token.equals("signed") && draft.signed.size() == 5) {
                    return 5;
                }
                if (!token.equals("shire") && !draft.opened) {
                    return 6;
                }
                draft.opened = true;
                line = token;
                due = List.of(LINES.get(token).split(" "));
                step = 0;
                continue;
            }
            if (step == due.size()) {
                if (!token.equals(";")) {
                    return 1;
                }
                due = null;
                continue;
            }
            String want = due.get(step++);
            boolean name = word && !LINES.containsKey(token);
            int folly = draft.follies.indexOf(token);
            if (want.matches("[0-9]+")) {
                if (!whole) {
                    return 1;
                }
                int value = Integer.parseInt(token);
                if (value > Integer.parseInt(want)) {
                    return 4;
                }
                if (line.equals("shire")) {
                    draft.wind = want.equals("100") ? value : draft.wind;
                    draft.rot = want.equals("9") ? value : draft.rot;
                } else if (line.equals("folly")) {
                    draft.follies.add(fresh);
                    draft.shapes.add(shape);
                    draft.sounds.add(value);
                } else {
                    draft.estates.add(fresh);
                    draft.estateFollies.add(first);
                    draft.debts.add(value);
                }
            } else if (want.equals("SHAPE")) {
                shape = SHAPES.indexOf(token);
                if (shape < 0) {
                    return 1;
                }
            } else if (want.equals("SAY")) {
                say = List.of("no", "yes").indexOf(token);
                if (say < 0) {
                    return 1;
                }
            } else if (want.equals("ANSWER")) {
                int answer = List.of("lost", "?", "no", "yes").indexOf(token) - 2;
                if (answer == -3) {
                    return 1;
                }
                draft.signed.add(new int[] {first, say, answer});
            } else if (want.equals("NEW")) {
                if (!name) {
                    return 1;
                }
                if (folly >= 0 || draft.estates.contains(token)) {
                    return 3;
                }
                fresh = token;
            } else if (want.toUpperCase().equals(want)) {
                if (!name) {
                    return 1;
                }
                if (folly < 0) {
                    return 2;
                }
                if (want.equals("SENDER") && draft.sends.containsKey(folly)
                    || want.equals("UNLIKE") && folly == first
                    || want.equals("HIRER") && !draft.hermits.add(folly)
                    || want.equals("VEILED") && !draft.veiled.add(folly)) {
                    return 3;
                }
                if (want.equals("UNLIKE")) {
                    draft.sends.put(first, folly);
                }
                first = folly;
            } else if (!want.equals(token)) {
                return 1;
            }
        }
        place = bytes.length();
        if (due == null || step < due.size()) {
            return 1;
        }
        return draft.follies.isEmpty() ? 6 : 0;
    }

    public int fault() {
        return fault;
    }

    public int where() {
        return trouble == 4 ? place : -1;
    }

    public int trouble() {
        return trouble;
    }

    // ---- refusals

    private int follies() {
        return text == null ? 0 : text.follies.size();
    }

    private int estates() {
        return text == null ? 0 : text.estates.size();
    }

    /** Sets TROUBLE to the first number behind which it isn't so; true if there is one. */
    private boolean no(Object... numbersAndTests) {
        for (int i = 0; i < numbersAndTests.length; i += 2) {
            if (!(Boolean) numbersAndTests[i + 1]) {
                trouble = (Integer) numbersAndTests[i];
                return true;
            }
        }
        trouble = 0;
        return false;
    }

    private static boolean in(int x, int low, int high) {
        return x >= low && x <= high;
    }

    private boolean isFolly(int f) {
        return in(f, 0, follies() - 1);
    }

    private boolean isEstate(int e) {
        return in(e, 0, estates() - 1);
    }

    // ---- now

    public int folly(int f, int what) {
        if (no(1, isFolly(f), 1, in(what, 0, 5))) {
            return -1;
        }
        int bits = 0;
        for (int e = 0; e < estates(); e++) {
            bits += text.estateFollies.get(e) == f ? 1 << e : 0;
        }
        int ruin = -2;
        State state = now;
        for (int n = 0; n < 200 && ruin == -2; n++) {
            ruin = state.sound[f] == 0 ? n : -2;
            state = state.aged(text.rot);
        }
        return new int[] {now.shapes[f], now.sound[f], now.hermit[f] ? 1 : 0, now.sends[f], bits, ruin}[what];
    }

    public int estate(int e, int what) {
        if (no(1, isEstate(e), 1, in(what, 0, 2))) {
            return -1;
        }
        return new int[] {text.estateFollies.get(e), text.debts.get(e), servedSet(now).contains(e) ? 1 : 0}[what];
    }

    private static int answer(State state, int f, int say) {
        if (state.sound[f] == 0) {
            return -2;
        }
        if (state.hermit[f]) {
            return 0;
        }
        int same = say;
        int other = 1 - say;
        return new int[] {same, other, 1, state.year % 2 == 0 ? same : other, -2}[state.shapes[f]];
    }

    private static Way way(State state, int f, int say) {
        Way way = new Way();
        int at = f;
        int saying = say;
        while (!way.follies.contains(at)) {
            way.follies.add(at);
            saying = answer(state, at, saying);
            if (saying == -2) {
                return way;
            }
            way.answers.add(saying);
            if (state.sends[at] == -2) {
                way.signer = at;
                way.outcome = saying;
                return way;
            }
            at = state.sends[at];
        }
        return way;
    }

    private static Way way(State state, int f, boolean yes) {
        return way(state, f, yes ? 1 : 0);
    }

    private Set<Integer> servedBy(State state, int letter) {
        Set<Integer> set = new TreeSet<>();
        Way way = way(state, letter / 2, letter % 2);
        for (int e = 0; e < estates(); e++) {
            if (way.outcome == 1 && way.signer == text.estateFollies.get(e)) {
                set.add(e);
            }
        }
        return set;
    }

    private Set<Integer> servedSet(State state) {
        Set<Integer> set = new TreeSet<>();
        for (int letter = 0; letter < 2 * follies(); letter++) {
            set.addAll(servedBy(state, letter));
        }
        return set;
    }

    private static int bits(Set<Integer> set) {
        return set.stream().mapToInt(x -> 1 << x).sum();
    }

    public int answers(int f, boolean yes) {
        return no(1, isFolly(f)) ? -1 : answer(now, f, yes ? 1 : 0);
    }

    public int signs(int f, boolean yes) {
        return no(1, isFolly(f)) ? -1 : way(now, f, yes).outcome;
    }

    public int signer(int f, boolean yes) {
        return no(1, isFolly(f)) ? -1 : way(now, f, yes).signer;
    }

    public int course(int f, boolean yes) {
        return no(1, isFolly(f)) ? -1 : way(now, f, yes).answers.size();
    }

    public int courseAt(int f, boolean yes, int i) {
        if (no(1, isFolly(f)) || no(1, in(i, 0, way(now, f, yes).follies.size() - 1))) {
            return -1;
        }
        return way(now, f, yes).follies.get(i);
    }

    public int served() {
        return no(1, text != null) ? -1 : bits(servedSet(now));
    }

    public int rounds() {
        if (no(1, text != null)) {
            return -1;
        }
        Set<Integer> set = new TreeSet<>();
        for (int f = 0; f < follies(); f++) {
            int at = f;
            for (int step = 0; step < 20 && at != -2; step++) {
                at = now.sends[at];
                if (at == f) {
                    set.add(f);
                }
            }
        }
        return bits(set);
    }

    public int idle() {
        if (no(1, text != null)) {
            return -1;
        }
        for (int f = 0; f < follies(); f++) {
            boolean any = false;
            for (int letter = 0; letter < 2 * follies(); letter++) {
                any |= way(now, letter / 2, letter % 2).signer == f;
            }
            if (!any && answer(now, f, 0) != -2) {
                return f;
            }
        }
        return -2;
    }

    // ---- serving

    private List<Integer> letters(int e) {
        List<Integer> list = new ArrayList<>();
        for (int letter = 0; letter < 2 * follies(); letter++) {
            if (servedBy(now, letter).contains(e)) {
                list.add(letter);
            }
        }
        return list;
    }

    private int steps(int letter) {
        return way(now, letter / 2, letter % 2).answers.size();
    }

    public int serves(int e) {
        return no(1, isEstate(e)) ? -1 : bits(new TreeSet<>(letters(e)));
    }

    public int best(int e) {
        return no(1, isEstate(e)) ? -1
            : letters(e).stream().min((a, b) -> steps(a) != steps(b) ? steps(a) - steps(b) : a - b).orElse(-2);
    }

    public int shortest(int e) {
        return no(1, isEstate(e)) ? -1 : letters(e).stream().mapToInt(this::steps).min().orElse(-2);
    }

    public int widest() {
        if (no(1, text != null)) {
            return -1;
        }
        for (int size = 5; size > 0; size--) {
            for (int letter = 0; letter < 2 * follies(); letter++) {
                if (servedBy(now, letter).size() == size) {
                    return letter;
                }
            }
        }
        return -2;
    }

    private int countIf(int f, int to) {
        State state = now.copy();
        state.sends[f] = to == f ? -2 : to;
        return servedSet(state).size();
    }

    private int[] findChange() {
        for (int size = 5; size > servedSet(now).size(); size--) {
            for (int f = 0; f < follies(); f++) {
                if (countIf(f, f) == size) {
                    return new int[] {11 * f, size};
                }
                for (int to = 0; to < follies(); to++) {
                    if (to != f && countIf(f, to) == size) {
                        return new int[] {10 * f + to, size};
                    }
                }
            }
        }
        return new int[] {-2, -2};
    }

    public int change() {
        return no(1, text != null) ? -1 : findChange()[0];
    }

    public int changeServes() {
        return no(1, text != null) ? -1 : findChange()[1];
    }

    public int servedIf(int f, int to) {
        return no(1, isFolly(f), 1, isFolly(to)) ? -1 : countIf(f, to);
    }

    // ---- years to come

    private State ahead(int n) {
        State state = now;
        for (int i = 0; i < n; i++) {
            state = state.aged(text.rot);
        }
        return state;
    }

    public int signsIn(int f, boolean yes, int n) {
        return no(1, isFolly(f), 2, in(n, 0, 60)) ? -1 : way(ahead(n), f, yes).outcome;
    }

    public int servedIn(int n) {
        return no(1, text != null, 2, in(n, 0, 60)) ? -1 : bits(servedSet(ahead(n)));
    }

    private List<Integer> yearsServed(int e) {
        List<Integer> list = new ArrayList<>();
        for (int n = 0; n <= 60; n++) {
            if (servedSet(ahead(n)).contains(e)) {
                list.add(n);
            }
        }
        return list;
    }

    public int firstServed(int e) {
        return no(1, isEstate(e)) ? -1 : yearsServed(e).stream().findFirst().orElse(-2);
    }

    public int lastServed(int e) {
        return no(1, isEstate(e)) ? -1 : yearsServed(e).stream().reduce((a, b) -> b).orElse(-2);
    }

    /** The best count and its digits: of all rows, by going down year by year. */
    private int[] bestRow(State state, int n, int digits) {
        if (n == 0) {
            return new int[] {servedSet(state).size(), digits};
        }
        int[] best = {-1, 0};
        for (int d = 0; d <= follies(); d++) {
            State mended = state.copy();
            if (d > 0) {
                mended.sound[d - 1] = text.sounds.get(d - 1);
            }
            int[] row = bestRow(mended.aged(text.rot), n - 1, 10 * digits + d);
            best = row[0] > best[0] ? row : best;
        }
        return best;
    }

    public int plan(int n) {
        return no(1, text != null, 2, in(n, 1, 4)) ? -1 : bestRow(now, n, 0)[1];
    }

    public int planServes(int n) {
        return no(1, text != null, 2, in(n, 1, 4)) ? -1 : bestRow(now, n, 0)[0];
    }

    public int keep() {
        if (no(1, text != null)) {
            return -1;
        }
        for (int size = 0; size <= follies(); size++) {
            for (int set = 0; set < 1 << follies(); set++) {
                State state = now.copy();
                for (int f = 0; f < follies(); f++) {
                    state.sound[f] = (set & 1 << f) == 0 ? 0 : now.sound[f];
                }
                if (Integer.bitCount(set) == size && servedSet(state).containsAll(servedSet(now))) {
                    return set;
                }
            }
        }
        throw new IllegalStateException();
    }

    public int pillar() {
        if (no(1, text != null)) {
            return -1;
        }
        for (int size = 0; size <= 5; size++) {
            for (int f = 0; f < follies(); f++) {
                State state = now.copy();
                state.sound[f] = 0;
                if (servedSet(state).size() == size) {
                    return f;
                }
            }
        }
        throw new IllegalStateException();
    }

    // ---- veiled ones

    private List<int[]> allFits() {
        List<int[]> rows = new ArrayList<>();
        rows.add(new int[0]);
        for (int k = 0; k < text.veiled.size(); k++) {
            List<int[]> longer = new ArrayList<>();
            for (int[] row : rows) {
                for (int shape = 0; shape < 5; shape++) {
                    int[] next = Arrays.copyOf(row, k + 1);
                    next[k] = shape;
                    longer.add(next);
                }
            }
            rows = longer;
        }
        rows.removeIf(row -> firstFalse(shaped(row)) != -2);
        return rows;
    }

    private State shaped(int[] row) {
        State state = yearZero();
        int k = 0;
        for (int f : text.veiled) {
            state.shapes[f] = row[k++];
        }
        return state;
    }

    private int firstFalse(State state) {
        for (int i = 0; i < text.signed.size(); i++) {
            int[] signed = text.signed.get(i);
            if (way(state, signed[0], signed[1]).outcome != signed[2]) {
                return i;
            }
        }
        return -2;
    }

    public int fits() {
        return no(1, text != null) ? -1 : allFits().size();
    }

    public int fitAt(int i, int k) {
        if (no(1, text != null) || no(1, in(i, 0, allFits().size() - 1), 1, in(k, 0, text.veiled.size() - 1))) {
            return -1;
        }
        return allFits().get(i)[k];
    }

    public int shapedBy(int k, int shape) {
        if (no(1, text != null) || no(1, in(k, 0, text.veiled.size() - 1), 2, in(shape, 0, 4))) {
            return -1;
        }
        return (int) allFits().stream().filter(row -> row[k] == shape).count();
    }

    private int[] findTry() {
        List<int[]> fits = allFits();
        int[] best = {-2, -2};
        for (int letter = 0; letter < 2 * follies() && !fits.isEmpty(); letter++) {
            int most = 0;
            for (int outcome = -2; outcome <= 1; outcome++) {
                int left = 0;
                for (int[] row : fits) {
                    left += way(shaped(row), letter / 2, letter % 2).outcome == outcome ? 1 : 0;
                }
                most = Math.max(most, left);
            }
            if (best[0] == -2 || most < best[1]) {
                best = new int[] {letter, most};
            }
        }
        return best;
    }

    public int tryLetter() {
        return no(1, text != null) ? -1 : findTry()[0];
    }

    public int tryLeaves() {
        return no(1, text != null) ? -1 : findTry()[1];
    }

    public int judge() {
        return no(1, text != null) ? -1 : firstFalse(yearZero());
    }

    // ---- votes, an agent and a hermit

    private boolean rules(int set) {
        int votes = 0;
        for (int e = 0; e < estates(); e++) {
            votes += (set & 1 << e) != 0 ? text.debts.get(e) : -text.debts.get(e);
        }
        return votes > 0;
    }

    private static long part(BigInteger upper, BigInteger lower, boolean wantsLower) {
        return (wantsLower ? lower : upper).divide(upper.gcd(lower)).longValueExact();
    }

    public long power(int e, boolean lower) {
        if (no(1, isEstate(e))) {
            return -1;
        }
        int swings = 0;
        int sets = 0;
        for (int set = 0; set < 1 << estates(); set++) {
            if ((set & 1 << e) == 0) {
                sets++;
                swings += !rules(set) && rules(set + (1 << e)) ? 1 : 0;
            }
        }
        return part(BigInteger.valueOf(swings), BigInteger.valueOf(sets), lower);
    }

    public int rule() {
        if (no(1, text != null)) {
            return -1;
        }
        for (int size = 0; size <= estates(); size++) {
            for (int set = 0; set < 1 << estates(); set++) {
                if (Integer.bitCount(set) == size && rules(set)) {
                    return set;
                }
            }
        }
        return -2;
    }

    private static int[] suit(int eye, int agent, int hermit) {
        int[][] rows = {{2, 2}, {-eye, 3}, {3, -eye}, {1 - eye, 1 - eye}};
        return rows[2 * agent + hermit];
    }

    public int sues(int eye, boolean agent, boolean hermit, boolean ofHermit) {
        if (no(1, text != null, 2, in(eye, 0, 9))) {
            return -100;
        }
        return suit(eye, agent ? 1 : 0, hermit ? 1 : 0)[ofHermit ? 1 : 0];
    }

    private static List<Integer> allRests(int eye) {
        List<Integer> list = new ArrayList<>();
        for (int a = 0; a < 2; a++) {
            for (int h = 0; h < 2; h++) {
                if (suit(eye, a, h)[0] >= suit(eye, 1 - a, h)[0] && suit(eye, a, h)[1] >= suit(eye, a, 1 - h)[1]) {
                    list.add(10 * a + h);
                }
            }
        }
        return list;
    }

    public int rests(int eye) {
        return no(1, text != null, 2, in(eye, 0, 9)) ? -1 : allRests(eye).size();
    }

    public int rest(int eye) {
        return no(1, text != null, 2, in(eye, 0, 9)) ? -1 : allRests(eye).stream().findFirst().orElse(-2);
    }

    // ---- winds

    /** By which chance, in parts of 100 to the power of the way's length, the outcome is so: by all turns of the wind. */
    private BigInteger chance(int f, int say, int outcome) {
        List<Integer> follies = way(now, f, say).follies;
        BigInteger sum = BigInteger.ZERO;
        for (int turns = 0; turns < 1 << follies.size(); turns++) {
            int saying = say;
            int weight = 0;
            BigInteger chance = BigInteger.ONE;
            for (int i = 0; i < follies.size(); i++) {
                boolean turn = (turns & 1 << i) != 0;
                saying = answer(now, follies.get(i), saying);
                saying = turn ? 1 - saying : saying;
                weight = turn ? text.wind : 100 - text.wind;
                chance = chance.multiply(BigInteger.valueOf(weight));
            }
            sum = saying == outcome ? sum.add(chance) : sum;
        }
        return sum;
    }

    public long odds(int f, boolean yes, boolean answer, boolean lower) {
        if (no(1, isFolly(f))) {
            return -1;
        }
        Way way = way(now, f, yes);
        if (way.outcome == -2) {
            return lower ? 1 : 0;
        }
        return part(chance(f, yes ? 1 : 0, answer ? 1 : 0), BigInteger.valueOf(100).pow(way.follies.size()), lower);
    }

    public long lostOdds(int f, boolean yes, boolean lower) {
        return no(1, isFolly(f)) ? -1 : lower || way(now, f, yes).outcome == -2 ? 1 : 0;
    }

    private int[] blow(int f, int say, int seed) {
        int saying = say;
        int drawn = seed;
        for (int folly : way(now, f, say).follies) {
            saying = answer(now, folly, saying);
            if (saying == -2) {
                return new int[] {-2, drawn};
            }
            drawn = (int) ((75L * drawn + 74) % 65537);
            saying = drawn % 100 < text.wind ? 1 - saying : saying;
        }
        return new int[] {way(now, f, say).outcome == -2 ? -2 : saying, drawn};
    }

    public int blown(int f, boolean yes, int seed) {
        return no(1, isFolly(f), 2, in(seed, 0, 65536)) ? -1 : blow(f, yes ? 1 : 0, seed)[0];
    }

    public int yeses(int f, boolean yes, int seed, int n) {
        if (no(1, isFolly(f), 2, in(seed, 0, 65536), 2, in(n, 0, 60))) {
            return -1;
        }
        int count = 0;
        int drawn = seed;
        for (int i = 0; i < n; i++) {
            int[] got = blow(f, yes ? 1 : 0, drawn);
            count += got[0] == 1 ? 1 : 0;
            drawn = got[1];
        }
        return count;
    }

    // ---- acts

    private void act(State state) {
        past.push(now);
        if (past.size() > 16) {
            past.removeLast();
        }
        now = state;
    }

    public int year() {
        if (no(1, text != null) || no(3, now.year < 999)) {
            return -1;
        }
        State before = now;
        act(now.aged(text.rot));
        Set<Integer> set = new TreeSet<>();
        for (int f = 0; f < follies(); f++) {
            if (before.sound[f] != 0 && now.sound[f] == 0) {
                set.add(f);
            }
        }
        return bits(set);
    }

    public int mend(int f) {
        if (no(1, isFolly(f)) || no(5, now.sound[f] != text.sounds.get(f))) {
            return -1;
        }
        State state = now.copy();
        state.sound[f] = text.sounds.get(f);
        act(state);
        return now.sound[f];
    }

    public int hire(int f) {
        if (no(1, isFolly(f))) {
            return -1;
        }
        State state = now.copy();
        state.hermit[f] = !state.hermit[f];
        act(state);
        return now.hermit[f] ? 1 : 0;
    }

    public boolean send(int f, int to) {
        if (no(1, isFolly(f), 1, isFolly(to)) || no(5, now.sends[f] != (to == f ? -2 : to))) {
            return false;
        }
        State state = now.copy();
        state.sends[f] = to == f ? -2 : to;
        act(state);
        return true;
    }

    public boolean undo() {
        if (no(6, !past.isEmpty())) {
            return false;
        }
        now = past.pop();
        return true;
    }

    public int image() {
        if (no(1, text != null, 3, images.size() < 3)) {
            return -1;
        }
        images.add(now);
        return images.size() - 1;
    }

    public boolean back(int image) {
        if (no(1, in(image, 0, images.size() - 1))) {
            return false;
        }
        now = images.get(image);
        past.clear();
        return true;
    }

    // ---- what is told

    public int led(int i) {
        List<Integer> list = new ArrayList<>();
        for (int e = 0; e < estates(); e++) {
            if (!servedSet(now).contains(e)) {
                list.add(e);
            }
        }
        if (!in(i, 0, list.size() - 1)) {
            throw new NoSuchElementException();
        }
        return list.get(i);
    }

    public int size(int what) {
        if (!in(what, 0, 11)) {
            return -1;
        }
        if (what == 11) {
            return tape.length();
        }
        if (text == null) {
            return 0;
        }
        int senders = (int) Arrays.stream(now.sends).filter(to -> to != -2).count();
        int hermits = 0;
        for (boolean has : now.hermit) {
            hermits += has ? 1 : 0;
        }
        return new int[] {text.wind, text.rot, follies(), senders, hermits, estates(), text.veiled.size(),
            text.signed.size(), now.year, past.size(), images.size()}[what];
    }
}
