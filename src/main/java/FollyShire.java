import java.util.NoSuchElementException;

/** A shire whose follies answer letters for the absent; DOC.md says what each call promises. */
public final class FollyShire {
    public static final int NONE = -1;

    /** The document's -2: nothing, nowhere, lost, never. */
    private static final int ABSENT = -2;
    private static final int NO = 0;
    private static final int YES = 1;

    private static final int TOWER = 0;
    private static final int ARCH = 1;
    private static final int OBELISK = 2;
    private static final int PYRAMID = 3;
    private static final int GROTTO = 4;
    private static final int SHAPES = 5;

    private static final int MOST_BYTES = 900;
    private static final int BYTES_A_FEED = 20;
    private static final int MOST_FOLLIES = 6;
    private static final int MOST_ESTATES = 5;
    private static final int MOST_VEILED = 3;
    private static final int MOST_SIGNED = 5;
    private static final int MOST_FITS = 125;
    private static final int FOLLY_SETS = 64;
    private static final int MOST_AHEAD = 60;
    private static final int MOST_PLANNED = 4;
    private static final int MOST_ROWS = 2401;
    private static final int MOST_YEARS = 999;
    private static final int MOST_UNDONE = 16;
    private static final int MOST_IMAGES = 3;
    private static final int MOST_EYE = 9;
    private static final int NO_SUIT = -100;
    private static final int SEEDS = 65537;

    private static final int NOT_REFUSED = 0;
    private static final int NONE_SUCH = 1;
    private static final int BAD_NUMBER = 2;
    private static final int NO_ROOM = 3;
    private static final int FAULTY = 4;
    private static final int NOT_SO = 5;
    private static final int NOTHING_LEFT = 6;

    private final byte[] tape = new byte[MOST_BYTES];
    private int taped;
    private final Told told = new Told();
    private final Reader reader = new Reader();
    private final Scene now = new Scene();
    private final Scene trial = new Scene();
    private final Course way = new Course();
    private final Serving serving = new Serving(told);
    private final Planner planner = new Planner(told, serving);
    private final Fits guesses = new Fits(told);
    private final Votes votes = new Votes(told);
    private final Winds winds = new Winds(told);
    private final Snapshots past = new Snapshots(MOST_UNDONE);
    private final Snapshots images = new Snapshots(MOST_IMAGES);
    private boolean there;
    private int trouble;
    private int fault;
    private int place;

    public FollyShire() {
    }

    // ---- the shire

    public int feed(int a, int b, int c, int d, int e) {
        if (taped + BYTES_A_FEED > MOST_BYTES) {
            return NONE;
        }
        tapeWord(a);
        tapeWord(b);
        tapeWord(c);
        tapeWord(d);
        tapeWord(e);
        return taped;
    }

    public int shire(int n) {
        if (n < 0 || n > taped) {
            return refused(BAD_NUMBER);
        }
        taped = 0;
        if (!reader.read(tape, n)) {
            fault = reader.fault;
            place = reader.place;
            return refused(FAULTY);
        }
        fault = 0;
        trouble = NOT_REFUSED;
        told.take(reader.draft);
        now.take(told.scene);
        past.clear();
        images.clear();
        guesses.gather();
        there = true;
        return now.count;
    }

    public int fault() {
        return fault;
    }

    public int where() {
        return trouble == FAULTY ? place : NONE;
    }

    // ---- now

    public int folly(int f, int what) {
        if (lacksFolly(f)) {
            return NONE;
        }
        switch (what) {
            case 0:
                return now.shape[f];
            case 1:
                return now.sound[f];
            case 2:
                return now.hermits >> f & 1;
            case 3:
                return now.target[f];
            case 4:
                return told.estatesOf[f];
            case 5:
                return yearsToRuin(now.sound[f], told.rot);
            default:
                return refused(NONE_SUCH);
        }
    }

    public int estate(int e, int what) {
        if (lacksEstate(e)) {
            return NONE;
        }
        switch (what) {
            case 0:
                return told.estateFolly[e];
            case 1:
                return told.debt[e];
            case 2:
                return serving.bitsServed(now) >> e & 1;
            default:
                return refused(NONE_SUCH);
        }
    }

    public int answers(int f, boolean yes) {
        if (lacksFolly(f)) {
            return NONE;
        }
        return now.reply(f, yes ? YES : NO);
    }

    public int signs(int f, boolean yes) {
        if (lacksFolly(f)) {
            return NONE;
        }
        way.run(now, f, yes);
        return way.outcome;
    }

    public int signer(int f, boolean yes) {
        if (lacksFolly(f)) {
            return NONE;
        }
        way.run(now, f, yes);
        return way.last;
    }

    public int course(int f, boolean yes) {
        if (lacksFolly(f)) {
            return NONE;
        }
        way.run(now, f, yes);
        return way.answered;
    }

    public int courseAt(int f, boolean yes, int i) {
        if (lacksFolly(f)) {
            return NONE;
        }
        way.run(now, f, yes);
        if (i < 0 || i >= way.length) {
            return refused(NONE_SUCH);
        }
        return way.path[i];
    }

    public int served() {
        if (lacksShire()) {
            return NONE;
        }
        return serving.bitsServed(now);
    }

    public int rounds() {
        if (lacksShire()) {
            return NONE;
        }
        int bits = 0;
        for (int f = 0; f < now.count; f++) {
            if (now.comesBack(f)) {
                bits |= 1 << f;
            }
        }
        return bits;
    }

    public int idle() {
        if (lacksShire()) {
            return NONE;
        }
        int signers = serving.bitsSigning(now);
        for (int f = 0; f < now.count; f++) {
            if ((signers >> f & 1) == 0 && now.reply(f, YES) != ABSENT) {
                return f;
            }
        }
        return ABSENT;
    }

    // ---- serving an estate

    public int serves(int e) {
        if (lacksEstate(e)) {
            return NONE;
        }
        return serving.lettersFor(now, e);
    }

    public int best(int e) {
        if (lacksEstate(e)) {
            return NONE;
        }
        serving.findShortest(now, e);
        return serving.letter;
    }

    public int shortest(int e) {
        if (lacksEstate(e)) {
            return NONE;
        }
        serving.findShortest(now, e);
        return serving.steps;
    }

    public int widest() {
        if (lacksShire()) {
            return NONE;
        }
        return serving.findWidest(now);
    }

    public int change() {
        if (lacksShire()) {
            return NONE;
        }
        serving.findChange(now);
        return serving.turn;
    }

    public int changeServes() {
        if (lacksShire()) {
            return NONE;
        }
        serving.findChange(now);
        return serving.turnServes;
    }

    public int servedIf(int f, int to) {
        if (lacksFolly(f) || lacksFolly(to)) {
            return NONE;
        }
        trial.take(now);
        trial.aim(f, to);
        return serving.countServed(trial);
    }

    // ---- years to come

    public int signsIn(int f, boolean yes, int n) {
        if (lacksFolly(f) || isOutside(n, 0, MOST_AHEAD)) {
            return NONE;
        }
        lookAhead(n);
        way.run(trial, f, yes);
        return way.outcome;
    }

    public int servedIn(int n) {
        if (lacksShire() || isOutside(n, 0, MOST_AHEAD)) {
            return NONE;
        }
        lookAhead(n);
        return serving.bitsServed(trial);
    }

    public int firstServed(int e) {
        if (lacksEstate(e)) {
            return NONE;
        }
        for (int n = 0; n <= MOST_AHEAD; n++) {
            if (isServedIn(e, n)) {
                return n;
            }
        }
        return ABSENT;
    }

    public int lastServed(int e) {
        if (lacksEstate(e)) {
            return NONE;
        }
        for (int n = MOST_AHEAD; n >= 0; n--) {
            if (isServedIn(e, n)) {
                return n;
            }
        }
        return ABSENT;
    }

    public int plan(int n) {
        if (lacksShire() || isOutside(n, 1, MOST_PLANNED)) {
            return NONE;
        }
        planner.search(now, n);
        return planner.digits;
    }

    public int planServes(int n) {
        if (lacksShire() || isOutside(n, 1, MOST_PLANNED)) {
            return NONE;
        }
        planner.search(now, n);
        return planner.most;
    }

    public int keep() {
        if (lacksShire()) {
            return NONE;
        }
        return serving.fewestKept(now);
    }

    public int pillar() {
        if (lacksShire()) {
            return NONE;
        }
        return serving.mostNeeded(now);
    }

    // ---- veiled ones

    public int fits() {
        if (lacksShire()) {
            return NONE;
        }
        return guesses.count;
    }

    public int fitAt(int i, int k) {
        if (lacksShire()) {
            return NONE;
        }
        if (i < 0 || i >= guesses.count || k < 0 || k >= told.veiled) {
            return refused(NONE_SUCH);
        }
        return guesses.shapeBy(guesses.codes[i], k);
    }

    public int shapedBy(int k, int shape) {
        if (lacksShire()) {
            return NONE;
        }
        if (k < 0 || k >= told.veiled) {
            return refused(NONE_SUCH);
        }
        if (isOutside(shape, 0, SHAPES - 1)) {
            return NONE;
        }
        return guesses.countShaped(k, shape);
    }

    public int tryLetter() {
        if (lacksShire()) {
            return NONE;
        }
        guesses.findTry();
        return guesses.letter;
    }

    public int tryLeaves() {
        if (lacksShire()) {
            return NONE;
        }
        guesses.findTry();
        return guesses.leaves;
    }

    public int judge() {
        if (lacksShire()) {
            return NONE;
        }
        return guesses.firstUntrue();
    }

    // ---- votes

    public long power(int e, boolean lower) {
        if (lacksEstate(e)) {
            return NONE;
        }
        return inLowestTerms(votes.countSwung(e), votes.countSetsOfOthers(), lower);
    }

    public int rule() {
        if (lacksShire()) {
            return NONE;
        }
        return votes.fewestRuling();
    }

    // ---- an agent, a hermit

    public int sues(int eye, boolean agent, boolean hermit, boolean ofHermit) {
        if (lacksShire() || isOutside(eye, 0, MOST_EYE)) {
            return NO_SUIT;
        }
        return ofHermit ? gain(eye, hermit, agent) : gain(eye, agent, hermit);
    }

    public int rests(int eye) {
        if (lacksShire() || isOutside(eye, 0, MOST_EYE)) {
            return NONE;
        }
        int count = 0;
        for (int pair = 0; pair < 4; pair++) {
            if (isRest(eye, pair)) {
                count++;
            }
        }
        return count;
    }

    public int rest(int eye) {
        if (lacksShire() || isOutside(eye, 0, MOST_EYE)) {
            return NONE;
        }
        for (int pair = 0; pair < 4; pair++) {
            if (isRest(eye, pair)) {
                return 10 * (pair >> 1) + (pair & 1);
            }
        }
        return ABSENT;
    }

    // ---- winds

    public long odds(int f, boolean yes, boolean answer, boolean lower) {
        if (lacksFolly(f)) {
            return NONE;
        }
        winds.weigh(now, f, yes);
        return inLowestTerms(answer ? winds.yesParts : winds.noParts, winds.parts, lower);
    }

    public long lostOdds(int f, boolean yes, boolean lower) {
        if (lacksFolly(f)) {
            return NONE;
        }
        winds.weigh(now, f, yes);
        return inLowestTerms(winds.parts - winds.yesParts - winds.noParts, winds.parts, lower);
    }

    public int blown(int f, boolean yes, int seed) {
        if (lacksFolly(f) || isOutside(seed, 0, SEEDS - 1)) {
            return NONE;
        }
        winds.seed = seed;
        return winds.blow(now, f, yes);
    }

    public int yeses(int f, boolean yes, int seed, int n) {
        if (lacksFolly(f) || isOutside(seed, 0, SEEDS - 1) || isOutside(n, 0, MOST_AHEAD)) {
            return NONE;
        }
        winds.seed = seed;
        int count = 0;
        for (int i = 0; i < n; i++) {
            if (winds.blow(now, f, yes) == YES) {
                count++;
            }
        }
        return count;
    }

    // ---- acts

    public int year() {
        if (lacksShire()) {
            return NONE;
        }
        if (now.year >= MOST_YEARS) {
            return refused(NO_ROOM);
        }
        past.push(now);
        int sound = now.bitsSound();
        now.age(told.rot, 1);
        return sound & ~now.bitsSound();
    }

    public int mend(int f) {
        if (lacksFolly(f)) {
            return NONE;
        }
        int due = told.scene.sound[f];
        if (now.sound[f] == due) {
            return refused(NOT_SO);
        }
        past.push(now);
        now.sound[f] = due;
        return due;
    }

    public int hire(int f) {
        if (lacksFolly(f)) {
            return NONE;
        }
        past.push(now);
        now.hermits ^= 1 << f;
        return now.hermits >> f & 1;
    }

    public boolean send(int f, int to) {
        if (lacksFolly(f) || lacksFolly(to)) {
            return false;
        }
        int target = to == f ? ABSENT : to;
        if (now.target[f] == target) {
            trouble = NOT_SO;
            return false;
        }
        past.push(now);
        now.target[f] = target;
        return true;
    }

    public boolean undo() {
        if (past.kept == 0) {
            trouble = NOTHING_LEFT;
            return false;
        }
        trouble = NOT_REFUSED;
        past.pop(now);
        return true;
    }

    public int image() {
        if (lacksShire()) {
            return NONE;
        }
        if (images.kept == MOST_IMAGES) {
            return refused(NO_ROOM);
        }
        images.push(now);
        return images.kept - 1;
    }

    public boolean back(int image) {
        if (image < 0 || image >= images.kept) {
            trouble = NONE_SUCH;
            return false;
        }
        trouble = NOT_REFUSED;
        images.show(image, now);
        past.clear();
        return true;
    }

    // ---- what is told

    public int led(int i) throws NoSuchElementException {
        int unserved = there ? ~serving.bitsServed(now) : 0;
        int passed = 0;
        for (int e = 0; e < told.estates; e++) {
            if ((unserved >> e & 1) == 0) {
                continue;
            }
            if (passed == i) {
                return e;
            }
            passed++;
        }
        throw new NoSuchElementException();
    }

    public int size(int what) {
        switch (what) {
            case 0:
                return told.wind;
            case 1:
                return told.rot;
            case 2:
                return now.count;
            case 3:
                return now.countSending();
            case 4:
                return Integer.bitCount(now.hermits);
            case 5:
                return told.estates;
            case 6:
                return told.veiled;
            case 7:
                return told.signed;
            case 8:
                return now.year;
            case 9:
                return past.kept;
            case 10:
                return images.kept;
            case 11:
                return taped;
            default:
                return NONE;
        }
    }

    public int trouble() {
        return trouble;
    }

    // ---- helpers of the calls

    private void tapeWord(int word) {
        for (int shift = 24; shift >= 0; shift -= 8) {
            if (taped < MOST_BYTES) {
                tape[taped] = (byte) (word >> shift);
                taped++;
            }
        }
    }

    private int refused(int number) {
        trouble = number;
        return NONE;
    }

    // Each of the four tests below sets TROUBLE either way: a call that may be refused begins with them.

    private boolean lacksShire() {
        trouble = there ? NOT_REFUSED : NONE_SUCH;
        return !there;
    }

    private boolean lacksFolly(int f) {
        boolean lacks = !there || f < 0 || f >= now.count;
        trouble = lacks ? NONE_SUCH : NOT_REFUSED;
        return lacks;
    }

    private boolean lacksEstate(int e) {
        boolean lacks = !there || e < 0 || e >= told.estates;
        trouble = lacks ? NONE_SUCH : NOT_REFUSED;
        return lacks;
    }

    private boolean isOutside(int number, int least, int most) {
        boolean outside = number < least || number > most;
        trouble = outside ? BAD_NUMBER : NOT_REFUSED;
        return outside;
    }

    private void lookAhead(int years) {
        trial.take(now);
        trial.age(told.rot, years);
    }

    private boolean isServedIn(int e, int years) {
        lookAhead(years);
        return (serving.bitsServed(trial) >> e & 1) != 0;
    }

    private static int yearsToRuin(int sound, int rot) {
        if (sound == 0) {
            return 0;
        }
        return rot > 0 ? (sound + rot - 1) / rot : ABSENT;
    }

    /** What one of the two has, by what it does itself and what the other one does. */
    private static int gain(int eye, boolean speaks, boolean otherSpeaks) {
        if (otherSpeaks) {
            return speaks ? 1 - eye : -eye;
        }
        return speaks ? 3 : 2;
    }

    private static boolean isRest(int eye, int pair) {
        boolean agent = (pair & 2) != 0;
        boolean hermit = (pair & 1) != 0;
        return gain(eye, agent, hermit) >= gain(eye, !agent, hermit)
            && gain(eye, hermit, agent) >= gain(eye, !hermit, agent);
    }

    private static long inLowestTerms(long upper, long lower, boolean wantsLower) {
        long common = lower;
        long rest = upper;
        // By Euclid numbers up to 10 to the 12th take below 60 steps.
        for (int step = 0; step < 200 && rest != 0; step++) {
            long left = common % rest;
            common = rest;
            rest = left;
        }
        if (common == 0) {
            return NONE;
        }
        return (wantsLower ? lower : upper) / common;
    }

    /** The follies at one time: all that ACTS can alter, and the shapes. */
    private static final class Scene {
        int count;
        int year;
        int hermits;
        final int[] shape = new int[MOST_FOLLIES];
        final int[] sound = new int[MOST_FOLLIES];
        final int[] target = new int[MOST_FOLLIES];

        void clear() {
            count = 0;
            year = 0;
            hermits = 0;
        }

        boolean has(int f) {
            return f >= 0 && f < count;
        }

        void add(int itsShape, int itsSound) {
            if (count < MOST_FOLLIES) {
                shape[count] = itsShape;
                sound[count] = itsSound;
                target[count] = ABSENT;
                count++;
            }
        }

        void take(Scene other) {
            count = other.count;
            year = other.year;
            hermits = other.hermits;
            for (int f = 0; f < MOST_FOLLIES; f++) {
                shape[f] = other.shape[f];
                sound[f] = other.sound[f];
                target[f] = other.target[f];
            }
        }

        int reply(int f, int say) {
            if (f < 0 || f >= count || sound[f] == 0) {
                return ABSENT;
            }
            if ((hermits >> f & 1) != 0) {
                return NO;
            }
            switch (shape[f]) {
                case TOWER:
                    return say;
                case ARCH:
                    return YES - say;
                case OBELISK:
                    return YES;
                case PYRAMID:
                    return (year & 1) == 0 ? say : YES - say;
                default:
                    return ABSENT;
            }
        }

        void age(int rot, int years) {
            year += years;
            for (int f = 0; f < count; f++) {
                sound[f] = Math.max(0, sound[f] - rot * years);
            }
        }

        int bitsSound() {
            int bits = 0;
            for (int f = 0; f < count; f++) {
                if (sound[f] > 0) {
                    bits |= 1 << f;
                }
            }
            return bits;
        }

        /** As RUINS are all alike, only whether a folly is sound matters to letters. */
        void standBy(int soundBits) {
            for (int f = 0; f < count; f++) {
                sound[f] = soundBits >> f & 1;
            }
        }

        /** Its own number is nowhere. */
        void aim(int f, int to) {
            if (has(f)) {
                target[f] = to == f ? ABSENT : to;
            }
        }

        int countSending() {
            int sending = 0;
            for (int f = 0; f < count; f++) {
                if (target[f] != ABSENT) {
                    sending++;
                }
            }
            return sending;
        }

        boolean comesBack(int f) {
            int at = f;
            for (int step = 0; step < count && has(at); step++) {
                at = target[at];
                if (at == f) {
                    return true;
                }
            }
            return false;
        }
    }

    /** One letter's COURSE, made anew by each run. */
    private static final class Course {
        final int[] path = new int[MOST_FOLLIES];
        int length;
        int answered;
        int last;
        int outcome;

        void run(Scene scene, int start, boolean yes) {
            length = 0;
            answered = 0;
            last = ABSENT;
            outcome = ABSENT;
            int seen = 0;
            int at = start;
            int say = yes ? YES : NO;
            while (length < MOST_FOLLIES && scene.has(at) && (seen >> at & 1) == 0) {
                seen |= 1 << at;
                path[length] = at;
                length++;
                say = scene.reply(at, say);
                if (say == ABSENT) {
                    return;
                }
                answered++;
                if (scene.target[at] == ABSENT) {
                    last = at;
                    outcome = say;
                    return;
                }
                at = scene.target[at];
            }
        }
    }

    /** What a text tells, as it was in year 0. */
    private static final class Told {
        int wind;
        int rot;
        final Scene scene = new Scene();
        int estates;
        final int[] estateFolly = new int[MOST_ESTATES];
        final int[] debt = new int[MOST_ESTATES];
        final int[] estatesOf = new int[MOST_FOLLIES];
        int veiled;
        final int[] veiledFolly = new int[MOST_VEILED];
        int signed;
        final int[] signedLetter = new int[MOST_SIGNED];
        final int[] signedAnswer = new int[MOST_SIGNED];

        void clear() {
            wind = 0;
            rot = 0;
            scene.clear();
            estates = 0;
            veiled = 0;
            signed = 0;
            for (int f = 0; f < MOST_FOLLIES; f++) {
                estatesOf[f] = 0;
            }
        }

        void take(Told other) {
            wind = other.wind;
            rot = other.rot;
            scene.take(other.scene);
            estates = other.estates;
            veiled = other.veiled;
            signed = other.signed;
            System.arraycopy(other.estateFolly, 0, estateFolly, 0, MOST_ESTATES);
            System.arraycopy(other.debt, 0, debt, 0, MOST_ESTATES);
            System.arraycopy(other.estatesOf, 0, estatesOf, 0, MOST_FOLLIES);
            System.arraycopy(other.veiledFolly, 0, veiledFolly, 0, MOST_VEILED);
            System.arraycopy(other.signedLetter, 0, signedLetter, 0, MOST_SIGNED);
            System.arraycopy(other.signedAnswer, 0, signedAnswer, 0, MOST_SIGNED);
        }

        void addEstate(int f, int itsDebt) {
            if (estates < MOST_ESTATES && scene.has(f)) {
                estateFolly[estates] = f;
                debt[estates] = itsDebt;
                estatesOf[f] |= 1 << estates;
                estates++;
            }
        }

        void addVeiled(int f) {
            if (veiled < MOST_VEILED) {
                veiledFolly[veiled] = f;
                veiled++;
            }
        }

        void addSigned(int letter, int answer) {
            if (signed < MOST_SIGNED) {
                signedLetter[signed] = letter;
                signedAnswer[signed] = answer;
                signed++;
            }
        }
    }

    /** Parts a text into TOKENS, one at a time. */
    private static final class Tokens {
        static final int END = 0;
        static final int WORD = 1;
        static final int WHOLE = 2;
        static final int SEMICOLON = 3;
        static final int NO_TOKEN = 4;
        private static final int MOST_LETTERS = 8;
        private static final int MOST_DIGITS = 3;

        private byte[] text = new byte[0];
        private int end;
        private int next;
        int kind;
        int place;

        void open(byte[] bytes, int n) {
            text = bytes;
            end = Math.min(n, bytes.length);
            next = 0;
            advance();
        }

        void advance() {
            next += countRun(' ', ' ');
            place = next;
            int letters = countRun('a', 'z');
            int digits = countRun('0', '9');
            next += letters + digits;
            // All that stand together are one TOKEN or none: too many begin none.
            if (letters > 0) {
                kind = letters <= MOST_LETTERS ? WORD : NO_TOKEN;
            } else if (digits > 0) {
                kind = digits <= MOST_DIGITS ? WHOLE : NO_TOKEN;
            } else if (next >= end) {
                kind = END;
            } else {
                kind = text[next] == ';' ? SEMICOLON : NO_TOKEN;
                next++;
            }
        }

        boolean isWord(String letters) {
            if (kind != WORD || letters.length() != next - place) {
                return false;
            }
            for (int at = place; at < next; at++) {
                if (text[at] != letters.charAt(at - place)) {
                    return false;
                }
            }
            return true;
        }

        /** A WORD's letters, five bits each: up to eight go into a long, and no two WORDS are alike. */
        long wordCode() {
            long code = 0;
            for (int at = place; at < next; at++) {
                code = (code << 5) + (text[at] - 'a' + 1);
            }
            return code;
        }

        int wholeValue() {
            int value = 0;
            for (int at = place; at < next; at++) {
                value = value * 10 + (text[at] - '0');
            }
            return value;
        }

        private int countRun(char low, char high) {
            int at = next;
            while (at < end && text[at] >= low && text[at] <= high) {
                at++;
            }
            return at - next;
        }
    }

    /** Reads a text line by line into a draft, up to its first FAULT. */
    private static final class Reader {
        private static final int FORM = 1;
        private static final int UNTOLD = 2;
        private static final int AGAIN = 3;
        private static final int BOUNDS = 4;
        private static final int MANY = 5;
        private static final int LACKS = 6;

        private static final int NO_LINE = 0;
        private static final int SHIRE_LINE = 1;
        private static final int FOLLY_LINE = 2;
        private static final int SENDS_LINE = 3;
        private static final int HERMIT_LINE = 4;
        private static final int ESTATE_LINE = 5;
        private static final int VEILED_LINE = 6;
        private static final int SIGNED_LINE = 7;

        final Told draft = new Told();
        private final Tokens tokens = new Tokens();
        private final long[] follyNames = new long[MOST_FOLLIES];
        private final long[] estateNames = new long[MOST_ESTATES];
        private boolean opened;
        private int senders;
        private int veils;
        private long name;
        /** What the latest step took: a WHOLE, a folly's number, a shape, or an answer. */
        private int taken;
        int fault;
        int place;

        boolean read(byte[] text, int n) {
            draft.clear();
            opened = false;
            senders = 0;
            veils = 0;
            fault = 0;
            tokens.open(text, n);
            for (int lines = 0; lines <= MOST_BYTES; lines++) {
                if (!readLine()) {
                    return false;
                }
                if (tokens.kind == Tokens.END) {
                    return draft.scene.count > 0 || fail(LACKS);
                }
                if (tokens.kind != Tokens.SEMICOLON) {
                    return fail(FORM);
                }
                tokens.advance();
            }
            return fail(FORM);
        }

        private boolean fail(int number) {
            fault = number;
            place = tokens.place;
            return false;
        }

        private boolean readLine() {
            int line = lineOf();
            if (line == NO_LINE) {
                return fail(FORM);
            }
            if (line == SHIRE_LINE) {
                return readShire();
            }
            if (!opened) {
                return fail(LACKS);
            }
            switch (line) {
                case FOLLY_LINE:
                    return readFolly();
                case SENDS_LINE:
                    return readSends();
                case HERMIT_LINE:
                    return readHermit();
                case ESTATE_LINE:
                    return readEstate();
                case VEILED_LINE:
                    return readVeiled();
                default:
                    return readSigned();
            }
        }

        /** Which LINE the TOKEN begins; such WORDS are no NAMES. */
        private int lineOf() {
            if (tokens.isWord("shire")) {
                return SHIRE_LINE;
            }
            if (tokens.isWord("folly")) {
                return FOLLY_LINE;
            }
            if (tokens.isWord("sends")) {
                return SENDS_LINE;
            }
            if (tokens.isWord("hermit")) {
                return HERMIT_LINE;
            }
            if (tokens.isWord("estate")) {
                return ESTATE_LINE;
            }
            if (tokens.isWord("veiled")) {
                return VEILED_LINE;
            }
            return tokens.isWord("signed") ? SIGNED_LINE : NO_LINE;
        }

        private boolean readShire() {
            if (opened) {
                return fail(AGAIN);
            }
            opened = true;
            tokens.advance();
            if (!passWord("wind") || !takeWhole(100)) {
                return false;
            }
            draft.wind = taken;
            if (!passWord("rot") || !takeWhole(9)) {
                return false;
            }
            draft.rot = taken;
            return true;
        }

        private boolean readFolly() {
            int f = draft.scene.count;
            if (f >= MOST_FOLLIES) {
                return fail(MANY);
            }
            tokens.advance();
            if (!takeNewName() || !takeShape()) {
                return false;
            }
            int shape = taken;
            if (!passWord("sound") || !takeWhole(99)) {
                return false;
            }
            follyNames[f] = name;
            draft.scene.add(shape, taken);
            return true;
        }

        private boolean readSends() {
            tokens.advance();
            if (!takeFolly(senders)) {
                return false;
            }
            int first = taken;
            if (!takeFolly(1 << first)) {
                return false;
            }
            senders |= 1 << first;
            draft.scene.aim(first, taken);
            return true;
        }

        private boolean readHermit() {
            tokens.advance();
            if (!takeFolly(draft.scene.hermits)) {
                return false;
            }
            draft.scene.hermits |= 1 << taken;
            return true;
        }

        private boolean readEstate() {
            int e = draft.estates;
            if (e >= MOST_ESTATES) {
                return fail(MANY);
            }
            tokens.advance();
            if (!takeNewName() || !takeFolly(0)) {
                return false;
            }
            int f = taken;
            if (!passWord("debt") || !takeWhole(99)) {
                return false;
            }
            estateNames[e] = name;
            draft.addEstate(f, taken);
            return true;
        }

        private boolean readVeiled() {
            if (draft.veiled >= MOST_VEILED) {
                return fail(MANY);
            }
            tokens.advance();
            if (!takeFolly(veils)) {
                return false;
            }
            veils |= 1 << taken;
            draft.addVeiled(taken);
            return true;
        }

        private boolean readSigned() {
            if (draft.signed >= MOST_SIGNED) {
                return fail(MANY);
            }
            tokens.advance();
            if (!takeFolly(0)) {
                return false;
            }
            int f = taken;
            if (!takeAnswer(false)) {
                return false;
            }
            int letter = 2 * f + taken;
            if (!takeAnswer(true)) {
                return false;
            }
            draft.addSigned(letter, taken);
            return true;
        }

        private boolean passWord(String letters) {
            if (!tokens.isWord(letters)) {
                return fail(FORM);
            }
            tokens.advance();
            return true;
        }

        private boolean takeWhole(int most) {
            if (tokens.kind != Tokens.WHOLE) {
                return fail(FORM);
            }
            int value = tokens.wholeValue();
            if (value > most) {
                return fail(BOUNDS);
            }
            taken = value;
            tokens.advance();
            return true;
        }

        private boolean takeNewName() {
            if (tokens.kind != Tokens.WORD || lineOf() != NO_LINE) {
                return fail(FORM);
            }
            name = tokens.wordCode();
            if (follyNamed(name) != NONE || isEstateNamed(name)) {
                return fail(AGAIN);
            }
            tokens.advance();
            return true;
        }

        /** The follies barred, as bits, were told already where they may be told but once. */
        private boolean takeFolly(int barred) {
            if (tokens.kind != Tokens.WORD || lineOf() != NO_LINE) {
                return fail(FORM);
            }
            int f = follyNamed(tokens.wordCode());
            if (f == NONE) {
                return fail(UNTOLD);
            }
            if ((barred >> f & 1) != 0) {
                return fail(AGAIN);
            }
            taken = f;
            tokens.advance();
            return true;
        }

        private boolean takeShape() {
            if (tokens.isWord("tower")) {
                taken = TOWER;
            } else if (tokens.isWord("arch")) {
                taken = ARCH;
            } else if (tokens.isWord("obelisk")) {
                taken = OBELISK;
            } else if (tokens.isWord("pyramid")) {
                taken = PYRAMID;
            } else if (tokens.isWord("grotto")) {
                taken = GROTTO;
            } else {
                return fail(FORM);
            }
            tokens.advance();
            return true;
        }

        private boolean takeAnswer(boolean mayBeLost) {
            if (tokens.isWord("yes")) {
                taken = YES;
            } else if (tokens.isWord("no")) {
                taken = NO;
            } else if (mayBeLost && tokens.isWord("lost")) {
                taken = ABSENT;
            } else {
                return fail(FORM);
            }
            tokens.advance();
            return true;
        }

        private int follyNamed(long word) {
            for (int f = 0; f < draft.scene.count; f++) {
                if (follyNames[f] == word) {
                    return f;
                }
            }
            return NONE;
        }

        private boolean isEstateNamed(long word) {
            for (int e = 0; e < draft.estates; e++) {
                if (estateNames[e] == word) {
                    return true;
                }
            }
            return false;
        }
    }

    /** Which letters serve which estates, in a scene as it is or slightly altered. */
    private static final class Serving {
        private final Told told;
        private final Course way = new Course();
        private final Scene trial = new Scene();
        int letter;
        int steps;
        int turn;
        int turnServes;

        Serving(Told told) {
            this.told = told;
        }

        int bitsServed(Scene scene) {
            int bits = 0;
            for (int each = 0; each < 2 * scene.count; each++) {
                bits |= bitsServedBy(scene, each);
            }
            return bits;
        }

        int countServed(Scene scene) {
            return Integer.bitCount(bitsServed(scene));
        }

        int bitsSigning(Scene scene) {
            int bits = 0;
            for (int each = 0; each < 2 * scene.count; each++) {
                way.run(scene, each >> 1, (each & 1) != 0);
                if (way.last != ABSENT) {
                    bits |= 1 << way.last;
                }
            }
            return bits;
        }

        int lettersFor(Scene scene, int e) {
            int bits = 0;
            for (int each = 0; each < 2 * scene.count; each++) {
                if ((bitsServedBy(scene, each) >> e & 1) != 0) {
                    bits |= 1 << each;
                }
            }
            return bits;
        }

        void findShortest(Scene scene, int e) {
            letter = ABSENT;
            steps = ABSENT;
            for (int each = 0; each < 2 * scene.count; each++) {
                boolean serving = (bitsServedBy(scene, each) >> e & 1) != 0;
                if (serving && (letter == ABSENT || way.answered < steps)) {
                    letter = each;
                    steps = way.answered;
                }
            }
        }

        int findWidest(Scene scene) {
            int widest = ABSENT;
            int most = 0;
            for (int each = 0; each < 2 * scene.count; each++) {
                int count = Integer.bitCount(bitsServedBy(scene, each));
                if (count > most) {
                    most = count;
                    widest = each;
                }
            }
            return widest;
        }

        void findChange(Scene scene) {
            turn = ABSENT;
            turnServes = ABSENT;
            int most = countServed(scene);
            trial.take(scene);
            for (int f = 0; f < scene.count; f++) {
                // Nowhere goes ahead of all follies, so it stands at -1.
                for (int to = -1; to < scene.count; to++) {
                    trial.aim(f, to < 0 ? f : to);
                    int count = countServed(trial);
                    if (count > most) {
                        most = count;
                        turn = 10 * f + (to < 0 ? f : to);
                        turnServes = count;
                    }
                }
                trial.target[f] = scene.target[f];
            }
        }

        int fewestKept(Scene scene) {
            int wanted = bitsServed(scene);
            int sound = scene.bitsSound();
            int fewest = sound;
            trial.take(scene);
            for (int kept = 0; kept < FOLLY_SETS; kept++) {
                // A set with a RUIN in it is never the fewest: without it the same is served.
                boolean fewer = Integer.bitCount(kept) < Integer.bitCount(fewest)
                    || Integer.bitCount(kept) == Integer.bitCount(fewest) && kept < fewest;
                if ((kept & ~sound) != 0 || !fewer) {
                    continue;
                }
                trial.standBy(kept);
                if ((wanted & ~bitsServed(trial)) == 0) {
                    fewest = kept;
                }
            }
            return fewest;
        }

        int mostNeeded(Scene scene) {
            int needed = 0;
            int least = MOST_ESTATES + 1;
            trial.take(scene);
            for (int f = 0; f < scene.count; f++) {
                trial.sound[f] = 0;
                int count = countServed(trial);
                if (count < least) {
                    least = count;
                    needed = f;
                }
                trial.sound[f] = scene.sound[f];
            }
            return needed;
        }

        private int bitsServedBy(Scene scene, int each) {
            way.run(scene, each >> 1, (each & 1) != 0);
            return way.outcome == YES && scene.has(way.last) ? told.estatesOf[way.last] : 0;
        }
    }

    /** Looks for the PLAN among all rows of mendings. */
    private static final class Planner {
        private final Told told;
        private final Serving serving;
        private final Scene trial = new Scene();
        private final int[] row = new int[MOST_PLANNED];
        private final int[] soundIfMended = new int[MOST_PLANNED];
        /** By the follies that are sound behind it, as bits; NONE where not counted yet. */
        private final int[] servedBySound = new int[FOLLY_SETS];
        private int soundUnmended;
        int digits;
        int most;

        Planner(Told told, Serving serving) {
            this.told = told;
            this.serving = serving;
        }

        void search(Scene scene, int years) {
            prepare(scene, years);
            most = NONE;
            boolean more = true;
            for (int i = 0; i < MOST_ROWS && more; i++) {
                int count = countBehind(soundBehindRow(years));
                if (count > most) {
                    most = count;
                    digits = rowAsDigits(years);
                }
                more = turnRow(years);
            }
        }

        private void prepare(Scene scene, int years) {
            trial.take(scene);
            trial.age(told.rot, years);
            soundUnmended = trial.bitsSound();
            for (int set = 0; set < FOLLY_SETS; set++) {
                servedBySound[set] = NONE;
            }
            for (int y = 0; y < years; y++) {
                row[y] = 0;
                soundIfMended[y] = bitsSoundAfter(years - y);
            }
        }

        private int bitsSoundAfter(int years) {
            int bits = 0;
            for (int f = 0; f < told.scene.count; f++) {
                if (told.scene.sound[f] > told.rot * years) {
                    bits |= 1 << f;
                }
            }
            return bits;
        }

        private int soundBehindRow(int years) {
            int sound = soundUnmended;
            for (int y = 0; y < years; y++) {
                if (row[y] > 0) {
                    int bit = 1 << (row[y] - 1);
                    sound = (sound & ~bit) | (soundIfMended[y] & bit);
                }
            }
            return sound;
        }

        private int countBehind(int sound) {
            if (sound < 0 || sound >= FOLLY_SETS) {
                return 0;
            }
            if (servedBySound[sound] == NONE) {
                trial.standBy(sound);
                servedBySound[sound] = Integer.bitCount(serving.bitsServed(trial));
            }
            return servedBySound[sound];
        }

        private int rowAsDigits(int years) {
            int number = 0;
            for (int y = 0; y < years; y++) {
                number = number * 10 + row[y];
            }
            return number;
        }

        /** Goes on to the next row, the last year turning fastest; false behind the last row. */
        private boolean turnRow(int years) {
            for (int y = years - 1; y >= 0; y--) {
                if (row[y] < trial.count) {
                    row[y]++;
                    return true;
                }
                row[y] = 0;
            }
            return false;
        }
    }

    /** Which shapes of the veiled follies go with the letters told as signed. */
    private static final class Fits {
        private final Told told;
        private final Course way = new Course();
        private final Scene trial = new Scene();
        /** Each fit's shapes as digits to the base of SHAPES, the first veiled one's highest. */
        final int[] codes = new int[MOST_FITS];
        int count;
        int letter;
        int leaves;

        Fits(Told told) {
            this.told = told;
        }

        void gather() {
            count = 0;
            int all = 1;
            for (int k = 0; k < told.veiled; k++) {
                all *= SHAPES;
            }
            trial.take(told.scene);
            for (int code = 0; code < all && count < MOST_FITS; code++) {
                wear(code);
                if (firstUntrueOf(trial) == ABSENT) {
                    codes[count] = code;
                    count++;
                }
            }
        }

        int shapeBy(int code, int k) {
            int rest = code;
            for (int later = k + 1; later < told.veiled; later++) {
                rest /= SHAPES;
            }
            return rest % SHAPES;
        }

        int countShaped(int k, int shape) {
            int shaped = 0;
            for (int fit = 0; fit < count; fit++) {
                if (shapeBy(codes[fit], k) == shape) {
                    shaped++;
                }
            }
            return shaped;
        }

        void findTry() {
            letter = ABSENT;
            leaves = ABSENT;
            if (count == 0) {
                return;
            }
            trial.take(told.scene);
            for (int each = 0; each < 2 * told.scene.count; each++) {
                int left = mostLeftBy(each);
                if (letter == ABSENT || left < leaves) {
                    letter = each;
                    leaves = left;
                }
            }
        }

        int firstUntrue() {
            return firstUntrueOf(told.scene);
        }

        private int firstUntrueOf(Scene scene) {
            for (int i = 0; i < told.signed; i++) {
                int each = told.signedLetter[i];
                way.run(scene, each >> 1, (each & 1) != 0);
                if (way.outcome != told.signedAnswer[i]) {
                    return i;
                }
            }
            return ABSENT;
        }

        private int mostLeftBy(int each) {
            int yes = 0;
            int no = 0;
            for (int fit = 0; fit < count; fit++) {
                wear(codes[fit]);
                way.run(trial, each >> 1, (each & 1) != 0);
                if (way.outcome == YES) {
                    yes++;
                } else if (way.outcome == NO) {
                    no++;
                }
            }
            return Math.max(count - yes - no, Math.max(yes, no));
        }

        private void wear(int code) {
            int rest = code;
            for (int k = told.veiled - 1; k >= 0; k--) {
                int f = told.veiledFolly[k];
                if (trial.has(f)) {
                    trial.shape[f] = rest % SHAPES;
                }
                rest /= SHAPES;
            }
        }
    }

    /** Votes of estates by their debts. */
    private static final class Votes {
        private final Told told;

        Votes(Told told) {
            this.told = told;
        }

        int countSetsOfOthers() {
            return told.estates > 0 ? 1 << (told.estates - 1) : 1;
        }

        int countSwung(int e) {
            int swung = 0;
            for (int set = 0; set < 1 << told.estates; set++) {
                boolean others = (set >> e & 1) == 0;
                if (others && !hasMost(set) && hasMost(set | (1 << e))) {
                    swung++;
                }
            }
            return swung;
        }

        int fewestRuling() {
            int fewest = ABSENT;
            int members = MOST_ESTATES + 1;
            for (int set = 0; set < 1 << told.estates; set++) {
                if (Integer.bitCount(set) < members && hasMost(set)) {
                    fewest = set;
                    members = Integer.bitCount(set);
                }
            }
            return fewest;
        }

        private boolean hasMost(int set) {
            int votes = 0;
            int all = 0;
            for (int e = 0; e < told.estates; e++) {
                all += told.debt[e];
                if ((set >> e & 1) != 0) {
                    votes += told.debt[e];
                }
            }
            return 2 * votes > all;
        }
    }

    /** Letters whose answers the wind may turn. It never alters the path, so that is run first. */
    private static final class Winds {
        private static final int HUNDRED = 100;

        private final Told told;
        private final Course way = new Course();
        int seed;
        long yesParts;
        long noParts;
        long parts;

        Winds(Told told) {
            this.told = told;
        }

        void weigh(Scene scene, int f, boolean yes) {
            yesParts = yes ? 1 : 0;
            noParts = yes ? 0 : 1;
            parts = 1;
            way.run(scene, f, yes);
            if (way.outcome == ABSENT) {
                yesParts = 0;
                noParts = 0;
                return;
            }
            for (int i = 0; i < way.length; i++) {
                weighAnswer(scene, way.path[i]);
            }
        }

        private void weighAnswer(Scene scene, int f) {
            long answersYes = 0;
            if (scene.reply(f, YES) == YES) {
                answersYes += yesParts;
            }
            if (scene.reply(f, NO) == YES) {
                answersYes += noParts;
            }
            long answersNo = yesParts + noParts - answersYes;
            yesParts = answersYes * (HUNDRED - told.wind) + answersNo * told.wind;
            noParts = answersNo * (HUNDRED - told.wind) + answersYes * told.wind;
            parts *= HUNDRED;
        }

        int blow(Scene scene, int f, boolean yes) {
            way.run(scene, f, yes);
            if (way.outcome == ABSENT) {
                return ABSENT;
            }
            int say = yes ? YES : NO;
            for (int i = 0; i < way.length; i++) {
                say = scene.reply(way.path[i], say);
                seed = (75 * seed + 74) % SEEDS;
                if (seed % HUNDRED < told.wind) {
                    say = YES - say;
                }
            }
            return say;
        }
    }

    /** Scenes as they once were, the latest behind; of too many the oldest is dropped. */
    private static final class Snapshots {
        private static final int WIDTH = 2 + 2 * MOST_FOLLIES;

        private final int room;
        private final int[] cells;
        int kept;

        Snapshots(int room) {
            this.room = room > 0 ? room : 1;
            cells = new int[this.room * WIDTH];
        }

        void clear() {
            kept = 0;
        }

        void push(Scene scene) {
            if (kept >= room) {
                System.arraycopy(cells, WIDTH, cells, 0, (room - 1) * WIDTH);
                kept = room - 1;
            }
            int at = kept * WIDTH;
            cells[at] = scene.year;
            cells[at + 1] = scene.hermits;
            System.arraycopy(scene.sound, 0, cells, at + 2, MOST_FOLLIES);
            System.arraycopy(scene.target, 0, cells, at + 2 + MOST_FOLLIES, MOST_FOLLIES);
            kept++;
        }

        void pop(Scene scene) {
            if (kept > 0) {
                kept--;
                show(kept, scene);
            }
        }

        void show(int row, Scene scene) {
            if (row < 0 || row >= room) {
                return;
            }
            int at = row * WIDTH;
            scene.year = cells[at];
            scene.hermits = cells[at + 1];
            System.arraycopy(cells, at + 2, scene.sound, 0, MOST_FOLLIES);
            System.arraycopy(cells, at + 2 + MOST_FOLLIES, scene.target, 0, MOST_FOLLIES);
        }
    }
}
