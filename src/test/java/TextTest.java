/** Promises 1 to 5: a new object, feed, shire, fault, where; the TAPE and every FAULT of the text. */
public final class TextTest {
    private static final String OPEN = "shire wind 0 rot 0;";
    private static final String TWO = OPEN + "folly f tower sound 1;folly g arch sound 1;";

    public static void main(String[] args) {
        newObject();
        tape();
        numbers();
        goodTexts();
        forms();
        names();
        bounds();
        many();
        lacks();
        leftmost();
        staysWhenFaulty();
        Check.end();
    }

    private static void newObject() {
        FollyShire x = new FollyShire();
        Check.due("new trouble", x.trouble(), 0);
        Check.due("new fault", x.fault(), 0);
        Check.due("new where", x.where(), Check.NONE);
        for (int what = 0; what <= 11; what++) {
            Check.due("new size " + what, x.size(what), 0);
        }
        Check.refused(x, "new served", x.served(), Check.NONE, 1);
        Check.refused(x, "new undo", x.undo(), 6);
        Check.refused(x, "new back", x.back(0), 1);
        Check.refused(x, "new signsIn, 1 ahead of 2", x.signsIn(0, true, 99), Check.NONE, 1);
        Check.refused(x, "new servedIn, 1 ahead of 2", x.servedIn(-1), Check.NONE, 1);
        Check.refused(x, "new plan, 1 ahead of 2", x.plan(9), Check.NONE, 1);
        Check.refused(x, "new sues, 1 ahead of 2", x.sues(10, true, true, true), -100, 1);
        Check.refused(x, "new shapedBy, 1 ahead of 2", x.shapedBy(0, 5), Check.NONE, 1);
        Check.ledThrows(x, 0);
    }

    private static void tape() {
        FollyShire x = new FollyShire();
        for (int i = 1; i <= 45; i++) {
            Check.due("feed " + i, x.feed(0x20202020, 0x20202020, 0x20202020, 0x20202020, 0x20202020), 20 * i);
        }
        Check.due("feed beyond 900", x.feed(1, 2, 3, 4, 5), Check.NONE);
        Check.due("feed is never refused by a number", x.trouble(), 0);
        Check.due("bytes of the tape", x.size(11), 900);
        Check.refused(x, "901 bytes", x.shire(901), Check.NONE, 2);
        Check.due("the tape stays", x.size(11), 900);
        Check.refused(x, "900 blanks", x.shire(900), Check.NONE, 4);
        Check.due("900 blanks: where", x.where(), 900);
        Check.due("the tape is empty", x.size(11), 0);
        // "shire wind 0 rot 0;folly f tower sound 1" by numbers, the highest byte first
        x.feed(0x73686972, 0x65207769, 0x6e642030, 0x20726f74, 0x20303b66);
        x.feed(0x6f6c6c79, 0x20662074, 0x6f776572, 0x20736f75, 0x6e642031);
        Check.due("bytes by numbers", x.shire(40), 1);
        Check.due("shape", x.folly(0, 0), 0);
    }

    private static void numbers() {
        FollyShire x = new FollyShire();
        Check.refused(x, "shire(-1)", x.shire(-1), Check.NONE, 2);
        Check.refused(x, "shire(1) of none", x.shire(1), Check.NONE, 2);
        Check.refused(x, "least", x.shire(Integer.MIN_VALUE), Check.NONE, 2);
        Check.refused(x, "shire(0)", x.shire(0), Check.NONE, 4);
        Check.due("of no bytes", x.fault(), 1);
        Check.due("of no bytes: where", x.where(), 0);
        Check.refused(x, "shire(5)", x.shire(5), Check.NONE, 2);
        Check.due("fault stays behind 2", x.fault(), 1);
        Check.due("but where is gone", x.where(), Check.NONE);
        Check.read(x, "what");
        Check.due("where", x.where(), 0);
        x.size(3);
        x.feed(0, 0, 0, 0, 0);
        Check.due("where stays behind calls that are not refused", x.where(), 0);
        x.served();
        Check.due("where is gone behind another refusal", x.where(), Check.NONE);
        Check.due("fault stays", x.fault(), 1);
        Check.due("bytes behind n are dropped", x.shire(0), Check.NONE);
        Check.due("tape", x.size(11), 0);
    }

    private static void goodTexts() {
        good(OPEN + "folly f tower sound 0", 1);
        good("  shire  wind 100 rot 9 ;  folly f grotto sound 99  ", 1);
        good("shire wind100rot9;folly f arch sound099", 1);
        good("shire wind 007 rot 000;folly abcdefgh obelisk sound 1", 1);
        good(OPEN + "folly yes tower sound 1;folly tower tower sound 1;sends yes tower;estate sound yes debt 1;"
            + "folly wind arch sound 1;folly lost arch sound 1;signed yes yes lost;veiled lost;hermit wind", 4);
        good(TWO + "sends f g;sends g f;hermit f;hermit g;veiled g;veiled f;signed f no lost;signed f no lost", 2);
        good(OPEN + "folly ab tower sound 1;folly abc tower sound 1;folly b tower sound 1", 3);
    }

    private static void forms() {
        bad("^", 1);
        bad("   ^", 1);
        bad("^;", 1);
        bad("^7", 1);
        bad("^tower", 1);
        bad("^shires wind", 1);
        bad("shire^", 1);
        bad("shire  ^", 1);
        bad("shire ^rot", 1);
        bad("shire wind ^rot", 1);
        bad(OPEN + "^", 1);
        bad(OPEN + "^;", 1);
        bad(OPEN + "folly f tower sound 1;^", 1);
        bad(OPEN + "folly f tower sound 1 ^folly", 1);
        bad(OPEN + "folly f tower sound 1 ^2", 1);
        bad(OPEN + "folly ^7", 1);
        bad(OPEN + "folly^;", 1);
        for (String line : new String[] {"shire", "folly", "sends", "hermit", "estate", "veiled", "signed"}) {
            bad(OPEN + "folly ^" + line, 1);
            bad(TWO + "sends ^" + line, 1);
            bad(TWO + "sends f ^" + line, 1);
            bad(TWO + "hermit ^" + line, 1);
            bad(TWO + "estate ^" + line, 1);
            bad(TWO + "estate e ^" + line, 1);
            bad(TWO + "veiled ^" + line, 1);
            bad(TWO + "signed ^" + line, 1);
        }
        bad(OPEN + "folly f ^barn", 1);
        bad(OPEN + "folly f tower ^tower", 1);
        bad(OPEN + "folly f tower sound ^yes", 1);
        bad(TWO + "signed f ^lost", 1);
        bad(TWO + "signed f yes ^maybe", 1);
        bad(TWO + "signed f ^1", 1);
        bad(TWO + "signed f yes no ^lost", 1);
        bad(TWO + "estate e f ^owes", 1);
        bad(TWO + "sends f^", 1);
        bad(TWO + "hermit f ^g", 1);
        bad(OPEN + "folly ^abcdefghi", 1);
        bad("shire wind ^1000", 1);
        bad("shire wind ^0000000000000000000000000000000000000000", 1);
        bad("^Shire wind 0", 1);
        bad("shire^\twind", 1);
        bad("shire wind ^-1", 1);
        bad("shire wind 0 rot 0;folly ^\u00e9", 1);
        bad("shire wind 0 rot 0^\0", 1);
        bad("shire wind 0 rot 0^,", 1);
        bad("shire wind 0 rot 0^/", 1);
        bad("shire wind 0 rot 0^:", 1);
        bad("shire wind 0 rot 0;folly f^`", 1);
        bad("shire wind 0 rot 0;folly f^{", 1);
    }

    private static void names() {
        bad(OPEN + "sends ^f", 2);
        bad(TWO + "sends ^h", 2);
        bad(TWO + "sends f ^h", 2);
        bad(TWO + "hermit ^h", 2);
        bad(TWO + "veiled ^h", 2);
        bad(TWO + "signed ^h", 2);
        bad(TWO + "estate e ^h", 2);
        bad(TWO + "estate e ^e", 2);
        bad(TWO + "estate e f debt 1;hermit ^e", 2);
        bad(TWO + "estate e f debt 1;estate h ^e", 2);
        bad(TWO + "folly ^f", 3);
        bad(TWO + "estate ^f", 3);
        bad(TWO + "estate e f debt 1;estate ^e", 3);
        bad(TWO + "estate e f debt 1;folly ^e", 3);
        bad(TWO + "sends f ^f", 3);
        bad(TWO + "sends f g;sends ^f", 3);
        bad(TWO + "hermit f;hermit ^f", 3);
        bad(TWO + "veiled g;veiled ^g", 3);
        bad(OPEN + "^shire", 3);
        bad(TWO + "^shire wind 0 rot 0", 3);
    }

    private static void bounds() {
        bad("shire wind ^101", 4);
        bad("shire wind 100 rot ^10", 4);
        bad(OPEN + "folly f tower sound ^100", 4);
        bad(TWO + "estate e f debt ^100", 4);
        bad(TWO + "estate e f debt ^999 x", 4);
    }

    private static void many() {
        String six = OPEN;
        for (char name = 'a'; name <= 'f'; name++) {
            six += "folly " + name + " tower sound 1;";
        }
        bad(six + "^folly", 5);
        bad(six + "^folly a", 5);
        String five = six;
        for (char name = 'p'; name <= 't'; name++) {
            five += "estate " + name + " a debt 1;";
        }
        bad(five + "^estate", 5);
        String three = six + "veiled a;veiled b;veiled c;";
        bad(three + "^veiled d", 5);
        bad(three + "^veiled a", 5);
        String signed = six;
        for (int i = 0; i < 5; i++) {
            signed += "signed a yes yes;";
        }
        bad(signed + "^signed a yes yes", 5);
        String sends = six + "sends a b;sends b c;sends c d;sends d e;sends e f;sends f a;";
        bad(sends + "sends^", 1);
        bad(sends + "sends ^a", 3);
        bad(six + "hermit a;hermit b;hermit c;hermit d;hermit e;hermit f;hermit ^f", 3);
        good(five + "veiled a;veiled b;veiled c;hermit a;signed a yes yes", 6);
    }

    private static void lacks() {
        for (String line : new String[] {"folly", "sends", "hermit", "estate", "veiled", "signed"}) {
            bad("  ^" + line + " a", 6);
        }
        bad("^folly f tower sound 1;shire wind 0 rot 0", 6);
        bad("shire wind 0 rot 0^", 6);
        bad("shire wind 0 rot 0  ^", 6);
    }

    private static void leftmost() {
        bad(TWO + "sends ^h;folly f tower sound 1;?", 2);
        bad(TWO + "hermit f;^?", 1);
        bad("shire wind ^101 rot 10;?", 4);
        bad("^hermit ?", 6);
    }

    private static void staysWhenFaulty() {
        FollyShire x = Check.made(TWO + "estate e f debt 3");
        x.hire(0);
        x.image();
        x.year();
        Check.refused(x, "faulty", Check.read(x, "shire wind 101"), Check.NONE, 4);
        Check.due("the shire stays", x.size(2), 2);
        Check.due("its year stays", x.size(8), 1);
        Check.due("its acts stay", x.size(9), 2);
        Check.due("its images stay", x.size(10), 1);
        Check.due("its hermits stay", x.size(4), 1);
        Check.due("its debts stay", x.estate(0, 1), 3);
        Check.due("another shire", Check.read(x, OPEN + "folly q arch sound 5"), 1);
        Check.due("not refused", x.trouble(), 0);
        Check.due("without a fault", x.fault(), 0);
        Check.due("year 0", x.size(8), 0);
        Check.due("nothing to undo", x.size(9), 0);
        Check.due("no images", x.size(10), 0);
        Check.due("no hermits", x.size(4), 0);
        Check.due("no estates", x.size(5), 0);
        Check.refused(x, "nothing to undo", x.undo(), 6);
        Check.refused(x, "no images", x.back(0), 1);
    }

    private static void good(String text, int follies) {
        FollyShire x = new FollyShire();
        Check.due(text, Check.read(x, text), follies);
        Check.due(text + ": trouble", x.trouble(), 0);
        Check.due(text + ": fault", x.fault(), 0);
        Check.due(text + ": where", x.where(), Check.NONE);
    }

    /** A text with a FAULT where ^ stands, which is left out. */
    private static void bad(String marked, int fault) {
        String text = marked.replace("^", "");
        FollyShire x = new FollyShire();
        Check.refused(x, marked, Check.read(x, text), Check.NONE, 4);
        Check.due(marked + ": fault", x.fault(), fault);
        Check.due(marked + ": where", x.where(), marked.indexOf('^'));
        Check.due(marked + ": no shire", x.size(2), 0);
    }
}
