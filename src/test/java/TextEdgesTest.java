/** The edges of Terms I, sentence by sentence: TOKENS, LINES, how many, bounds, NAMES, FAULTS and their places. */
public final class TextEdgesTest {
    private static final String OPEN = "shire wind 0 rot 0;";
    private static final String ONE = OPEN + "folly f tower sound 1";
    private static final String TWO = ONE + ";folly g arch sound 1";
    private static final String[] WORDS_OF_LINES = {"shire", "folly", "sends", "hermit", "estate", "veiled", "signed"};
    private static final String[] SHAPES = {"tower", "arch", "obelisk", "pyramid", "grotto"};

    public static void main(String[] args) {
        blanks();
        words();
        wholes();
        semicolons();
        lines();
        shireLine();
        follyLine();
        sendsLine();
        hermitLine();
        estateLine();
        veiledLine();
        signedLine();
        names();
        firstOfFaults();
        noToken();
        noGoingOn();
        theEnd();
        untold();
        again();
        outOfBounds();
        many();
        lacks();
        Check.end();
    }

    // ---- TOKENS

    private static void blanks() {
        Check.term("blanks, 32, part TOKENS and mean nothing else");
        good("   " + ONE, 1);
        good(ONE + "   ", 1);
        good("   shire   wind   0   rot   0   ;   folly   f   tower   sound   1", 1);
        good("shire wind 0 rot 0;folly f tower sound 1", 1);
        good("shire wind0rot0;folly f tower sound1", 1);
        bad("^shirewind 0 rot 0", 1);
        bad(OPEN + "folly ftower ^sound 1", 1);
        bad(OPEN + "^fol ly f tower sound 1", 1);
        bad(ONE + " ^0", 1);
        good(ONE + "0", 1);
        for (int other : new int[] {0, 9, 10, 13, 31, 33, 127, 160, 255}) {
            bad(OPEN + "folly f tower sound^" + (char) other + "1", 1);
            bad("^" + (char) other + ONE, 1);
            bad(ONE + "^" + (char) other, 1);
        }
    }

    private static void words() {
        Check.term("WORDS of 1 to 8 small letters that stand together");
        good(OPEN + "folly a tower sound 1", 1);
        good(OPEN + "folly z tower sound 1", 1);
        good(OPEN + "folly abcdefg tower sound 1", 1);
        good(OPEN + "folly abcdefgh tower sound 1", 1);
        good(OPEN + "folly zzzzzzzz tower sound 1", 1);
        bad(OPEN + "folly ^abcdefghi tower sound 1", 1);
        bad(OPEN + "folly ^abcdefghijklmnopqrstuvwxyz tower sound 1", 1);
        bad(OPEN + "folly ^zzzzzzzzzzzzzzzzzzzzzzzzzzzzzzzzzzzzzzzzzzzzzzzzzzzzzzzzzzzzzzzzzzzz", 1);
        bad(OPEN + "folly ^A tower sound 1", 1);
        bad(OPEN + "folly ^Z tower sound 1", 1);
        bad(OPEN + "folly a^Z tower sound 1", 1);
        bad(OPEN + "folly a^` tower sound 1", 1);
        bad(OPEN + "folly z^{ tower sound 1", 1);
        good(OPEN + "folly zzzzzzzy tower sound 1;folly zzzzzzzz tower sound 1;folly yzzzzzzz tower sound 1", 3);
        good(OPEN + "folly a tower sound 1;folly aa tower sound 1;folly aaaaaaaa tower sound 1;folly ba tower sound 1", 4);
        bad(OPEN + "folly abcdefgh tower sound 1;folly ^abcdefgh", 3);
        for (int at = 0; at < 8; at++) {
            String other = "abcdefgh".substring(0, at) + "z" + "abcdefgh".substring(at + 1);
            good(OPEN + "folly abcdefgh tower sound 1;folly " + other + " tower sound 1;estate " + "abcdefgh".substring(at, at + 1)
                + " " + other + " debt 1", 2);
            bad(OPEN + "folly abcdefgh tower sound 1;hermit ^" + other, 2);
        }
        // Letters by their places, each worth ten, sixteen, twenty-six or so of the next: never one for another.
        String[][] unlike = {{"aq", "ba"}, {"ak", "ba"}, {"az", "b"}, {"z", "az"}, {"aaz", "aba"}, {"ab", "ba"}, {"a", "aa"}};
        for (String[] two : unlike) {
            good(OPEN + "folly " + two[0] + " tower sound 1;folly " + two[1] + " tower sound 1", 2);
            bad(OPEN + "folly " + two[0] + " tower sound 1;hermit ^" + two[1], 2);
        }
        bad(ONE + ";^obelisks", 1);
        bad(ONE + ";^foll f", 1);
        bad(ONE + ";^follyf", 1);
    }

    private static void wholes() {
        Check.term("WHOLES of 1 to 3 digits that do");
        good("shire wind 0 rot 00;folly f tower sound 000", 1);
        good("shire wind 100 rot 009;folly f tower sound 09", 1);
        bad("shire wind ^0000 rot 0", 1);
        bad("shire wind ^1000 rot 0", 1);
        bad("shire wind 0 rot ^0009", 1);
        bad(OPEN + "folly f tower sound ^0001", 1);
        bad(OPEN + "folly f tower sound ^99999999999999999999999999", 1);
        bad(OPEN + "folly f tower sound 1^/", 1);
        bad(OPEN + "folly f tower sound 1^:", 1);
        bad(OPEN + "folly f tower sound ^/1", 1);
        bad("shire wind ^-0 rot 0", 1);
        bad("shire wind ^+1 rot 0", 1);
        bad("shire wind 0^.5 rot 0", 1);
        FollyShire x = Check.made("shire wind 079 rot 8;folly f tower sound 90");
        Check.due("the first digit counts most", x.size(0), 79);
        Check.due("9 and 0", x.folly(0, 1), 90);
    }

    private static void semicolons() {
        Check.term("single ones of ;");
        good(ONE + ";hermit f", 1);
        good(ONE + " ; hermit f", 1);
        bad(ONE + ";^;hermit f", 1);
        bad(ONE + "; ^; hermit f", 1);
        bad("^;" + ONE, 1);
        bad(ONE + ";^", 1);
        bad(ONE + ";  ^", 1);
        bad(OPEN + "^;folly f tower sound 1", 1);
        bad("shire^;wind 0 rot 0", 1);
    }

    // ---- LINES

    private static void lines() {
        Check.term("LINE {; LINE}");
        bad("shire wind 0 rot 0^", 6);
        good(ONE, 1);
        good(ONE + ";hermit f;veiled f", 1);
        bad(ONE + " ^hermit f", 1);
        bad(ONE + ";hermit f ^veiled f", 1);
        bad("shire wind 0 rot 0 ^folly f tower sound 1", 1);
    }

    private static void shireLine() {
        Check.term("shire wind WHOLE rot WHOLE (0 .. 100 in a hundred; 0 .. 9 years of soundness a year)");
        for (int wind : new int[] {0, 1, 99, 100}) {
            Check.due("wind " + wind, Check.made("shire wind " + wind + " rot 0;folly f tower sound 1").size(0), wind);
        }
        bad("shire wind ^101 rot 0;folly f tower sound 1", 4);
        bad("shire wind ^999 rot 0;folly f tower sound 1", 4);
        for (int rot : new int[] {0, 1, 8, 9}) {
            Check.due("rot " + rot, Check.made("shire wind 0 rot " + rot + ";folly f tower sound 1").size(1), rot);
        }
        bad("shire wind 0 rot ^10;folly f tower sound 1", 4);
        bad("shire wind 0 rot ^999;folly f tower sound 1", 4);
        Check.term("ahead of all others");
        bad("^folly f tower sound 1;shire wind 0 rot 0", 6);
        bad("^folly f tower sound 1", 6);
    }

    private static void follyLine() {
        Check.term("folly NAME SHAPE sound WHOLE (SHAPE: tower, arch, obelisk, pyramid, or grotto; 0 .. 99; up to 6)");
        for (int shape = 0; shape < SHAPES.length; shape++) {
            FollyShire x = Check.made(OPEN + "folly f " + SHAPES[shape] + " sound 1");
            Check.due(SHAPES[shape], x.folly(0, 0), shape);
        }
        for (String none : new String[] {"towe", "towers", "barn", "ruin", "f", "yes"}) {
            bad(OPEN + "folly f ^" + none + " sound 1", 1);
        }
        for (int sound : new int[] {0, 1, 98, 99}) {
            Check.due("sound " + sound, Check.made(OPEN + "folly f tower sound " + sound).folly(0, 1), sound);
        }
        bad(OPEN + "folly f tower sound ^100", 4);
        bad(OPEN + "folly f tower sound ^999", 4);
        good(follies(5), 5);
        good(follies(6), 6);
        bad(follies(6) + ";^folly z tower sound 1", 5);
    }

    private static void sendsLine() {
        Check.term("sends FOLLY FOLLY (unlike; each first one once)");
        good(TWO + ";sends f g", 2);
        bad(TWO + ";sends f ^f", 3);
        bad(TWO + ";sends g ^g", 3);
        bad(TWO + ";sends f g;sends ^f g", 3);
        good(TWO + ";sends f g;sends g f", 2);
        good(follies(6) + ";sends b a;sends c a;sends d a;sends e a;sends f a", 6);
        FollyShire x = Check.made(follies(6) + ";sends a b;sends b c;sends c d;sends d e;sends e f;sends f a");
        Check.due("all six send", x.size(3), 6);
        Check.due("f to a", x.folly(5, 3), 0);
    }

    private static void hermitLine() {
        Check.term("hermit FOLLY (each once)");
        Check.due("one", Check.made(TWO + ";hermit g").size(4), 1);
        Check.due("both", Check.made(TWO + ";hermit g;hermit f").size(4), 2);
        bad(TWO + ";hermit g;hermit ^g", 3);
        FollyShire x = Check.made(follies(6) + ";hermit a;hermit b;hermit c;hermit d;hermit e;hermit f");
        Check.due("all six", x.size(4), 6);
        bad(follies(6) + ";hermit a;hermit b;hermit c;hermit d;hermit e;hermit f;hermit ^a", 3);
    }

    private static void estateLine() {
        Check.term("estate NAME FOLLY debt WHOLE (0 .. 99; up to 5)");
        for (int debt : new int[] {0, 1, 98, 99}) {
            Check.due("debt " + debt, Check.made(ONE + ";estate e f debt " + debt).estate(0, 1), debt);
        }
        bad(ONE + ";estate e f debt ^100", 4);
        bad(ONE + ";estate e f debt ^999", 4);
        Check.due("none", Check.made(ONE).size(5), 0);
        Check.due("four", Check.made(ONE + estates(4)).size(5), 4);
        Check.due("five", Check.made(ONE + estates(5)).size(5), 5);
        bad(ONE + estates(5) + ";^estate z f debt 1", 5);
    }

    private static void veiledLine() {
        Check.term("veiled FOLLY (each once; up to 3)");
        Check.due("none", Check.made(follies(6)).size(6), 0);
        Check.due("two", Check.made(follies(6) + ";veiled f;veiled a").size(6), 2);
        Check.due("three", Check.made(follies(6) + ";veiled f;veiled a;veiled c").size(6), 3);
        bad(follies(6) + ";veiled f;veiled ^f", 3);
        bad(follies(6) + ";veiled f;veiled a;veiled ^f", 3);
        bad(follies(6) + ";veiled f;veiled a;veiled c;^veiled b", 5);
    }

    private static void signedLine() {
        Check.term("signed FOLLY SAY ANSWER (a letter put in there with SAY came back so, in year 0; SAY: yes, or no; "
            + "ANSWER: yes, no, or lost; up to 5)");
        for (String say : new String[] {"yes", "no"}) {
            for (String answer : new String[] {"yes", "no", "lost"}) {
                FollyShire x = Check.made(ONE + ";signed f " + say + " " + answer);
                Check.due(say + " " + answer + " is so", x.judge(), say.equals(answer) ? -2 : 0);
            }
        }
        bad(ONE + ";signed f ^lost yes", 1);
        bad(ONE + ";signed f ^maybe yes", 1);
        bad(ONE + ";signed f yes ^nothing", 1);
        bad(ONE + ";signed f no ^yess", 1);
        Check.due("none", Check.made(ONE).size(7), 0);
        Check.due("four", Check.made(ONE + signed(4)).size(7), 4);
        Check.due("five, though all alike", Check.made(ONE + signed(5)).size(7), 5);
        bad(ONE + signed(5) + ";^signed f yes yes", 5);
    }

    private static void names() {
        Check.term("NAMES are WORDS but shire, folly, sends, hermit, estate, veiled, signed");
        for (String word : WORDS_OF_LINES) {
            bad(OPEN + "folly ^" + word + " tower sound 1", 1);
            bad(ONE + ";estate ^" + word + " f debt 1", 1);
            bad(ONE + ";estate e ^" + word + " debt 1", 1);
            bad(ONE + ";sends ^" + word + " f", 1);
            bad(ONE + ";sends f ^" + word, 1);
            bad(ONE + ";hermit ^" + word, 1);
            bad(ONE + ";veiled ^" + word, 1);
            bad(ONE + ";signed ^" + word + " yes yes", 1);
            good(OPEN + "folly " + word + "s tower sound 1;estate x" + word + " " + word + "s debt 1", 1);
            good(OPEN + "folly " + word.substring(1) + " tower sound 1", 1);
        }
        for (String word : new String[] {"wind", "rot", "sound", "debt", "yes", "no", "lost", "tower", "arch", "obelisk",
            "pyramid", "grotto"}) {
            good(OPEN + "folly " + word + " tower sound 1;hermit " + word + ";veiled " + word + ";signed " + word
                + " yes no;estate e " + word + " debt 1", 1);
            good(ONE + ";estate " + word + " f debt 1", 1);
        }
        Check.term("each told once, ahead of its use.");
        bad(OPEN + "hermit ^f;folly f tower sound 1", 2);
        bad(OPEN + "folly f tower sound 1;sends f ^g;folly g tower sound 1", 2);
        good(OPEN + "folly f tower sound 1;folly g tower sound 1;sends f g", 2);
        good(OPEN + "folly f tower sound 1;hermit f;folly g tower sound 1;sends f g;estate e g debt 1;folly h arch sound 1;"
            + "sends h f", 3);
        bad(OPEN + "folly f tower sound 1;folly ^f tower sound 1", 3);
    }

    // ---- FAULTS

    private static void firstOfFaults() {
        Check.term("FAULTS, the first that is met from the left");
        bad(ONE + ";hermit ^h;hermit f;hermit f;?", 2);
        bad(ONE + ";hermit f;hermit ^f;hermit h;?", 3);
        bad("shire wind ^101 rot 10", 4);
        bad("shire ^winds 101 rot 10", 1);
        bad(ONE + ";folly g tower sound ^100 ?", 4);
        bad("^hermit hermit", 6);
        bad(follies(6) + ";^folly f barn", 5);
        Check.term("of one place the least number");
        bad("^", 1);
        bad("   ^", 1);
        bad(OPEN + "^", 1);
        bad("shire wind 0 rot^", 1);
        bad(ONE + ";estate e f debt 1;sends f ^e", 2);
        bad(ONE + ";estate e ^e", 2);
    }

    private static void noToken() {
        Check.term("1 FORM: the first byte that begins no TOKEN");
        for (int each = 0; each < 256; each++) {
            char sign = (char) each;
            String text = ONE + sign;
            if (sign == ' ') {
                good(text, 1);
            } else if (sign >= '0' && sign <= '9') {
                good(text, 1);
            } else {
                boolean goesOn = sign == ';';
                bad(text, 1, "byte " + each, goesOn ? text.length() : text.length() - 1);
            }
        }
        bad("^?shire wind 0 rot 0", 1);
        bad("shire^? wind 0 rot 0", 1);
        bad("shire wind 0 rot 0;folly f^? tower sound 1", 1);
        bad(ONE + ";hermit f^?", 1);
    }

    private static void noGoingOn() {
        Check.term("or TOKEN with which no SHIRE goes on");
        String[] tokens = ("shire wind 0 rot 0 ; folly f tower sound 1 ; folly g arch sound 2 ; sends f g ; hermit f ; "
            + "estate e f debt 3 ; veiled g ; signed f yes lost").split(" ");
        for (int at = 0; at < tokens.length; at++) {
            String ahead = String.join(" ", java.util.Arrays.copyOf(tokens, at)) + (at == 0 ? "" : " ");
            boolean isWord = Character.isLetter(tokens[at].charAt(0));
            boolean isWhole = Character.isDigit(tokens[at].charAt(0));
            if (!isWhole) {
                bad(ahead + "^7", 1);
            }
            if (!isWord) {
                bad(ahead + "^zebra", 1);
            }
            if (!tokens[at].equals(";")) {
                bad(ahead + "^;", 1);
            }
            if (isWord && tokens[at].length() > 1) {
                bad(ahead + "^zebra", 1);
            }
        }
        String whole = "shire wind 0 rot 0;folly f tower sound 1;folly g arch sound 2;folly h obelisk sound 3;"
            + "folly i pyramid sound 4;folly j grotto sound 5;sends f g;hermit f;estate e f debt 3;veiled g;signed f yes lost;"
            + "signed f no yes";
        good(whole, 5);
        for (int at = 0; at < whole.length(); at++) {
            boolean inWord = Character.isLetter(whole.charAt(at));
            int begin = Math.max(whole.lastIndexOf(' ', at), whole.lastIndexOf(';', at)) + 1;
            boolean ofMany = at + 1 < whole.length() && Character.isLetter(whole.charAt(at + 1)) || at > begin;
            if (inWord && ofMany) {
                String spoiled = whole.substring(0, at) + "q" + whole.substring(at + 1);
                bad(spoiled, 1, "a letter of a WORD is q: " + spoiled, begin);
            }
        }
        bad(ONE + ";signed f yes lost ^lost", 1);
        bad(ONE + ";hermit f ^f", 1);
        bad(TWO + ";sends f g ^f", 1);
    }

    private static void theEnd() {
        Check.term("(the end: its place)");
        String[] tokens = ("shire wind 0 rot 0 ; folly f tower sound 1 ; folly g arch sound 2 ; sends f g ; hermit f ; "
            + "estate e f debt 3 ; veiled g ; signed f yes lost").split(" ");
        for (int count = 0; count <= tokens.length; count++) {
            String text = String.join(" ", java.util.Arrays.copyOf(tokens, count));
            boolean atLineEnd = count > 0 && (count == tokens.length || tokens[count].equals(";"));
            if (!atLineEnd) {
                bad(text + "^", 1);
                bad(text + "    ^", 1);
            } else if (count == 5) {
                bad(text + "^", 6);
                bad(text + "    ^", 6);
            } else {
                good(text, count < 17 ? count < 12 ? 1 : 2 : 2);
            }
        }
    }

    private static void untold() {
        Check.term("2 a NAME that isn't told, or is of another sort than must stand there; at it.");
        String e = TWO + ";estate e f debt 1";
        for (String line : new String[] {"sends ^N f", "sends f ^N", "hermit ^N", "estate h ^N debt 1", "veiled ^N",
            "signed ^N yes yes"}) {
            bad(e + ";" + line.replace("N", "nobody"), 2);
            bad(e + ";" + line.replace("N", "e"), 2);
            bad(e + ";" + line.replace("N", "ff"), 2);
            good(e + ";" + line.replace("^N", "g"), 2);
        }
        bad(OPEN + "hermit ^tower", 2);
    }

    private static void again() {
        String e = TWO + ";estate e f debt 1";
        Check.term("3 a NAME told again; at it");
        bad(e + ";folly ^f", 3);
        bad(e + ";folly ^g barn", 3);
        bad(e + ";folly ^e", 3);
        bad(e + ";estate ^e", 3);
        bad(e + ";estate ^f", 3);
        good(e + ";estate h f debt 1;folly i tower sound 1", 3);
        Check.term("a FOLLY that sends, has a hermit, is veiled already; at it");
        bad(e + ";sends f g;sends ^f", 3);
        bad(e + ";hermit f;hermit ^f", 3);
        bad(e + ";veiled f;veiled ^f", 3);
        good(e + ";sends f g;hermit f;veiled f;sends g f;hermit g;veiled g", 2);
        Check.term("a second FOLLY of sends that is the first; at it");
        bad(e + ";sends f ^f", 3);
        bad(e + ";sends f g;sends g ^g", 3);
        Check.term("a second shire: at that WORD.");
        bad(OPEN + "^shire", 3);
        bad(e + ";^shire wind 0 rot 0", 3);
        bad(e + ";  ^shire wind 101 rot 0", 3);
    }

    private static void outOfBounds() {
        Check.term("4 a WHOLE out of bounds; at it.");
        bad("shire wind  ^101", 4);
        bad("shire wind 100 rot  ^10", 4);
        bad("shire wind 100 rot  ^010", 4);
        bad(OPEN + "folly f tower sound  ^100", 4);
        bad(ONE + ";estate e f debt  ^100", 4);
        good("shire wind 100 rot 009;folly f tower sound 099;estate e f debt 099", 1);
    }

    private static void many() {
        Check.term("5 MANY: a LINE more of its sort than there is room for, at its first WORD.");
        bad(follies(6) + ";^folly", 5);
        bad(follies(6) + ";  ^folly a", 5);
        bad(ONE + estates(5) + ";^estate", 5);
        bad(ONE + estates(5) + ";^estate f", 5);
        bad(follies(6) + ";veiled a;veiled b;veiled c;^veiled", 5);
        bad(follies(6) + ";veiled a;veiled b;veiled c;^veiled c", 5);
        bad(ONE + signed(5) + ";^signed", 5);
        bad(ONE + signed(5) + ";^signed nobody", 5);
        FollyShire full = Check.made(follies(6) + estates(5).replace(" f ", " a ") + ";veiled a;veiled b;veiled c"
            + signed(5).replace(" f ", " a ") + ";hermit a;sends a b");
        int[] due = {6, 1, 1, 5, 3, 5};
        for (int what = 2; what <= 7; what++) {
            Check.due("full of all, size " + what, full.size(what), due[what - 2]);
        }
    }

    private static void lacks() {
        Check.term("6 LACKS: any LINE ahead of the shire; at its WORD");
        for (String word : WORDS_OF_LINES) {
            if (!word.equals("shire")) {
                bad("^" + word, 6);
                bad("  ^" + word + " f;shire wind 0 rot 0", 6);
            }
        }
        Check.term("at the end: no folly.");
        bad("shire wind 0 rot 0^", 6);
        bad("shire wind 0 rot 0   ^", 6);
        good(ONE, 1);
    }

    // ---- what they share

    private static String follies(int count) {
        StringBuilder text = new StringBuilder("shire wind 0 rot 0");
        for (int f = 0; f < count; f++) {
            text.append(";folly ").append((char) ('a' + f)).append(" tower sound 1");
        }
        return text.toString();
    }

    private static String estates(int count) {
        StringBuilder text = new StringBuilder();
        for (int e = 0; e < count; e++) {
            text.append(";estate ").append((char) ('p' + e)).append(" f debt 1");
        }
        return text.toString();
    }

    private static String signed(int count) {
        return ";signed f yes yes".repeat(count);
    }

    private static void good(String text, int follies) {
        FollyShire x = new FollyShire();
        Check.taken(x, "'" + text + "'", Check.read(x, text), follies);
        Check.due("'" + text + "', its fault", x.fault(), 0);
        Check.due("'" + text + "', its where", x.where(), Check.NONE);
    }

    /** A text with a FAULT where ^ stands, which is left out. */
    private static void bad(String marked, int fault) {
        bad(marked.replace("^", ""), fault, marked, marked.indexOf('^'));
    }

    private static void bad(String text, int fault, String what, int place) {
        FollyShire x = new FollyShire();
        Check.refused(x, "'" + what + "'", Check.read(x, text), Check.NONE, 4);
        Check.due("'" + what + "', its fault", x.fault(), fault);
        Check.due("'" + what + "', its where", x.where(), place);
        Check.due("'" + what + "': no shire", x.size(2), 0);
    }
}
