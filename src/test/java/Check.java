import java.nio.charset.StandardCharsets;
import java.util.Arrays;
import java.util.NoSuchElementException;
import java.util.TreeSet;
import java.util.function.IntToLongFunction;
import java.util.function.ToLongFunction;

/** What the tests share: it feeds texts, compares answers, and ends with 1 if one was wrong. */
final class Check {
    static final int NONE = FollyShire.NONE;
    private static int count;
    private static int wrong;
    private static String sentence = "";
    private static int countAtSentence = -1;
    private static final TreeSet<Integer> promises = new TreeSet<>();

    private Check() {
    }

    /** From here on the answers are about these words of a promise; words that nothing tries are wrong. */
    static void promise(int number, String words) {
        promises.add(number);
        begin("promise " + number + ", '" + words + "': ");
    }

    /** The same about words of the Terms. */
    static void term(String words) {
        begin("terms, '" + words + "': ");
    }

    private static void begin(String next) {
        endSentence();
        sentence = next;
        countAtSentence = count;
    }

    private static void endSentence() {
        if (count == countAtSentence) {
            wrong++;
            System.out.println(sentence + "nothing tries it");
        }
        countAtSentence = -1;
    }

    static void due(String what, long got, long want) {
        count++;
        if (got != want) {
            wrong++;
            System.out.println(sentence + what + " answered " + got + ", due is " + want);
        }
    }

    static void due(String what, boolean got, boolean want) {
        due(what, got ? 1 : 0, want ? 1 : 0);
    }

    /** A call that was refused, and its TROUBLE. */
    static void refused(FollyShire x, String what, long got, long want, int trouble) {
        due(what, got, want);
        due(what + ", its trouble", x.trouble(), trouble);
    }

    static void refused(FollyShire x, String what, boolean got, int trouble) {
        refused(x, what, got ? 1 : 0, 0, trouble);
    }

    /** A call that was not refused. */
    static void taken(FollyShire x, String what, long got, long want) {
        refused(x, what, got, want, 0);
    }

    /** Numbers least .. most are taken; those next to them, and the farthest, are refused. */
    static void within(FollyShire x, String what, int least, int most, int trouble, IntToLongFunction call) {
        within(x, what, least, most, trouble, NONE, call);
    }

    static void within(FollyShire x, String what, int least, int most, int trouble, long refusal, IntToLongFunction call) {
        for (int number : new int[] {least - 1, most + 1, Integer.MIN_VALUE, Integer.MAX_VALUE}) {
            refused(x, what + " " + number, call.applyAsLong(number), refusal, trouble);
        }
        for (int number : new int[] {least, most}) {
            due(what + " " + number + " is taken", call.applyAsLong(number) != refusal, true);
            due(what + " " + number + ", its trouble", x.trouble(), 0);
        }
    }

    /** Without a SHIRE the call is refused by 1, even if its numbers were out of bounds, too. */
    static void needsShire(String what, long refusal, ToLongFunction<FollyShire> call) {
        FollyShire none = new FollyShire();
        refused(none, what + " of no shire", call.applyAsLong(none), refusal, 1);
        read(none, "no shire");
        refused(none, what + " of a faulty one", call.applyAsLong(none), refusal, 1);
    }

    /** All that ACTS can change, and all that was told, to see that a call changed nothing. */
    static String state(FollyShire x) {
        StringBuilder state = new StringBuilder();
        for (int what = 0; what <= 11; what++) {
            state.append(x.size(what)).append(' ');
        }
        for (int f = 0; f < x.size(2); f++) {
            for (int what = 0; what <= 4; what++) {
                state.append(x.folly(f, what)).append(' ');
            }
        }
        for (int e = 0; e < x.size(5); e++) {
            state.append(x.estate(e, 0)).append(' ').append(x.estate(e, 1)).append(' ');
        }
        return state.toString();
    }

    static void same(String what, String got, String want) {
        due(what + ": " + got + " is as before, " + want, got.equals(want), true);
    }

    static void ledThrows(FollyShire x, int i) {
        boolean threw = false;
        try {
            x.led(i);
        } catch (NoSuchElementException e) {
            threw = true;
        }
        due("led(" + i + ") throws", threw, true);
    }

    /** Puts a text's bytes behind the tape, filled up with blanks. */
    static void feed(FollyShire x, byte[] text) {
        int feeds = (text.length + 19) / 20;
        byte[] all = Arrays.copyOf(text, feeds * 20);
        Arrays.fill(all, text.length, all.length, (byte) ' ');
        for (int i = 0; i < all.length; i += 20) {
            x.feed(number(all, i), number(all, i + 4), number(all, i + 8), number(all, i + 12), number(all, i + 16));
        }
    }

    static int read(FollyShire x, String text) {
        byte[] bytes = text.getBytes(StandardCharsets.ISO_8859_1);
        feed(x, bytes);
        return x.shire(bytes.length);
    }

    static FollyShire made(String text) {
        FollyShire x = new FollyShire();
        if (read(x, text) < 1) {
            throw new IllegalArgumentException("fault " + x.fault() + " at " + x.where() + " of " + text);
        }
        return x;
    }

    /** Ends tests by sentences: none of the promises first .. last may have been passed over. */
    static void end(int first, int last) {
        endSentence();
        sentence = "";
        for (int number = first; number <= last; number++) {
            due("promise " + number + " has sentences that are tried", promises.contains(number), true);
        }
        end();
    }

    static void end() {
        System.out.println(count + " answers, " + wrong + " wrong");
        if (wrong != 0) {
            System.exit(1);
        }
    }

    private static int number(byte[] bytes, int at) {
        return (bytes[at] & 255) << 24 | (bytes[at + 1] & 255) << 16 | (bytes[at + 2] & 255) << 8 | bytes[at + 3] & 255;
    }
}
