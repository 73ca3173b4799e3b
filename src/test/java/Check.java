import java.nio.charset.StandardCharsets;
import java.util.Arrays;
import java.util.NoSuchElementException;

/** What the tests share: it feeds texts, compares answers, and ends with 1 if one was wrong. */
final class Check {
    static final int NONE = FollyShire.NONE;
    private static int count;
    private static int wrong;

    private Check() {
    }

    static void due(String what, long got, long want) {
        count++;
        if (got != want) {
            wrong++;
            System.out.println(what + " answered " + got + ", due is " + want);
        }
    }

    static void due(String what, boolean got, boolean want) {
        due(what, got ? 1 : 0, want ? 1 : 0);
    }

    /** A call that was refused, and its TROUBLE. */
    static void refused(FollyShire x, String what, long got, long want, int trouble) {
        due(what, got, want);
        due(what + ", its trouble", x.trouble(), trouble);
    }

    static void refused(FollyShire x, String what, boolean got, int trouble) {
        refused(x, what, got ? 1 : 0, 0, trouble);
    }

    static void ledThrows(FollyShire x, int i) {
        boolean threw = false;
        try {
            x.led(i);
        } catch (NoSuchElementException e) {
            threw = true;
        }
        due("led(" + i + ") throws", threw, true);
    }

    /** Puts a text's bytes behind the tape, filled up with blanks. */
    static void feed(FollyShire x, byte[] text) {
        int feeds = (text.length + 19) / 20;
        byte[] all = Arrays.copyOf(text, feeds * 20);
        Arrays.fill(all, text.length, all.length, (byte) ' ');
        for (int i = 0; i < all.length; i += 20) {
            x.feed(number(all, i), number(all, i + 4), number(all, i + 8), number(all, i + 12), number(all, i + 16));
        }
    }

    static int read(FollyShire x, String text) {
        byte[] bytes = text.getBytes(StandardCharsets.ISO_8859_1);
        feed(x, bytes);
        return x.shire(bytes.length);
    }

    static FollyShire made(String text) {
        FollyShire x = new FollyShire();
        if (read(x, text) < 1) {
            throw new IllegalArgumentException("fault " + x.fault() + " at " + x.where() + " of " + text);
        }
        return x;
    }

    static void end() {
        System.out.println(count + " answers, " + wrong + " wrong");
        if (wrong != 0) {
            System.exit(1);
        }
    }

    private static int number(byte[] bytes, int at) {
        return (bytes[at] & 255) << 24 | (bytes[at + 1] & 255) << 16 | (bytes[at + 2] & 255) << 8 | bytes[at + 3] & 255;
    }
}
