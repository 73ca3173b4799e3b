/** The edges of promises 1 to 5, sentence by sentence: THE TAPE, shire's numbers, fault and where. */
public final class TapeEdgesTest {
    private static final String GOOD = "shire wind 0 rot 1;folly f tower sound 5;estate e f debt 3";
    private static final int BLANKS = 0x20202020;

    public static void main(String[] args) {
        newObject();
        feedsInOrder();
        feedsUpTo900();
        readsTheFirstBytes();
        emptiesTheTape();
        beginsAnew();
        beginsAnewOften();
        refusesNumbers();
        refusesFaults();
        tellsTheFault();
        tellsItsPlace();
        Check.end(1, 5);
    }

    private static void newObject() {
        Check.promise(1, "No SHIRE.");
        FollyShire x = new FollyShire();
        Check.due("its trouble", x.trouble(), 0);
        Check.due("its fault", x.fault(), 0);
        Check.due("its where", x.where(), Check.NONE);
        for (int what = 0; what <= 11; what++) {
            Check.due("its size " + what, x.size(what), 0);
        }
        Check.refused(x, "its served", x.served(), Check.NONE, 1);
        Check.refused(x, "its folly 0", x.folly(0, 0), Check.NONE, 1);
        Check.refused(x, "its estate 0", x.estate(0, 0), Check.NONE, 1);
        Check.refused(x, "its undo", x.undo(), 6);
        Check.refused(x, "its image 0", x.back(0), 1);
        Check.ledThrows(x, 0);
    }

    private static void feedsInOrder() {
        Check.promise(2, "Twenty bytes come behind THE TAPE, of each number the highest first: how many it has");
        FollyShire x = new FollyShire();
        // "shire wind 9 rot 8 ;" and "folly f arch sound 7"
        Check.due("the first feed", x.feed(0x73686972, 0x65207769, 0x6e642039, 0x20726f74, 0x2038203b), 20);
        Check.due("the second feed", x.feed(0x666f6c6c, 0x79206620, 0x61726368, 0x20736f75, 0x6e642037), 40);
        Check.due("tape", x.size(11), 40);
        Check.due("read", x.shire(40), 1);
        Check.due("wind", x.size(0), 9);
        Check.due("rot", x.size(1), 8);
        Check.due("shape", x.folly(0, 0), 1);
        Check.due("sound", x.folly(0, 1), 7);
        Check.due("the least numbers", x.feed(Integer.MIN_VALUE, 0, 0, 0, 0), 20);
        Check.due("the lowest byte comes fourth", x.feed(BLANKS, BLANKS, BLANKS, BLANKS, 0x2020203b), 40);
        x.shire(40);
        Check.due("a byte of 128 begins no token", x.where(), 0);
        x.feed(BLANKS, BLANKS, BLANKS, BLANKS, 0x2020203b);
        x.shire(20);
        Check.due("the last byte of a feed", x.where(), 19);
        x.feed(-1, -1, -1, -1, -1);
        x.shire(20);
        Check.due("bytes of 255", x.where(), 0);
        for (int at = 0; at < 20; at++) {
            int[] five = {BLANKS, BLANKS, BLANKS, BLANKS, BLANKS};
            five[at / 4] ^= 0x1b << 24 - 8 * (at % 4);
            x.feed(five[0], five[1], five[2], five[3], five[4]);
            x.shire(20);
            Check.due("the byte fed as number " + at, x.where(), at);
        }
    }

    private static void feedsUpTo900() {
        Check.promise(2, "NONE, and none comes, if there would be more than 900.");
        FollyShire x = new FollyShire();
        for (int i = 1; i <= 43; i++) {
            Check.due("feed " + i, x.feed(BLANKS, BLANKS, BLANKS, BLANKS, BLANKS), 20 * i);
        }
        // The last forty of 900 bytes: a text that ends with THE TAPE.
        Check.due("feed 44", x.feed(0x73686972, 0x65207769, 0x6e642039, 0x20726f74, 0x2038203b), 880);
        Check.due("feed 45, the tape is full", x.feed(0x666f6c6c, 0x79206620, 0x61726368, 0x20736f75, 0x6e642037), 900);
        Check.due("feed 46", x.feed(0, 0, 0, 0, 0), Check.NONE);
        Check.due("feed 47", x.feed(-1, -1, -1, -1, -1), Check.NONE);
        Check.due("none came", x.size(11), 900);
        Check.due("feed tells no number of trouble", x.trouble(), 0);
        Check.due("the tape's end is as it was", x.shire(900), 1);
        Check.due("sound by the tape's last byte", x.folly(0, 1), 7);

        Check.term("THE TAPE has 900 bytes");
        FollyShire y = new FollyShire();
        fill(y, 45);
        Check.refused(y, "901 bytes of it", y.shire(901), Check.NONE, 2);
        Check.refused(y, "900 bytes of it", y.shire(900), Check.NONE, 4);
        Check.due("its end", y.where(), 900);
        Check.due("it is empty then", y.size(11), 0);
        Check.due("and takes bytes again", y.feed(0, 0, 0, 0, 0), 20);
        fill(y, 44);
        Check.due("up to 900 again", y.size(11), 900);
        Check.due("and none more", y.feed(0, 0, 0, 0, 0), Check.NONE);
    }

    private static void readsTheFirstBytes() {
        Check.promise(3, "The first n bytes of THE TAPE");
        String text = "shire wind 0 rot 1;folly f tower sound 98";
        for (int less = 0; less <= 1; less++) {
            FollyShire x = new FollyShire();
            Check.feed(x, bytes(text + "?"));
            Check.taken(x, "the bytes ahead of n", x.shire(text.length() - less), 1);
            Check.due("sound by them", x.folly(0, 1), less == 0 ? 98 : 9);
        }
        FollyShire y = new FollyShire();
        Check.feed(y, bytes(text + "?"));
        Check.refused(y, "a byte more", y.shire(text.length() + 1), Check.NONE, 4);
        Check.due("that byte", y.where(), text.length());
        FollyShire none = new FollyShire();
        Check.feed(none, bytes(text));
        Check.refused(none, "no bytes", none.shire(0), Check.NONE, 4);
        Check.due("no bytes: its fault", none.fault(), 1);
        Check.due("no bytes: its place", none.where(), 0);
        Check.due("no bytes: the tape is empty then, too", none.size(11), 0);
        Check.promise(3, "how many follies");
        StringBuilder more = new StringBuilder("shire wind 0 rot 0");
        for (int count = 1; count <= 6; count++) {
            more.append(";folly ").append((char) ('a' + count)).append(" tower sound 1");
            FollyShire z = new FollyShire();
            Check.taken(z, count + " follies", Check.read(z, more.toString()), count);
        }
    }

    private static void emptiesTheTape() {
        Check.promise(3, "(it is empty then)");
        FollyShire x = new FollyShire();
        Check.read(x, GOOD);
        Check.due("behind a good text", x.size(11), 0);
        Check.refused(x, "none of it is left", x.shire(1), Check.NONE, 2);
        Check.due("the next feed is the first", x.feed(BLANKS, BLANKS, BLANKS, BLANKS, BLANKS), 20);
        x.shire(3);
        Check.due("bytes behind n are gone, too", x.size(11), 0);
        Check.read(x, "?");
        Check.due("behind a faulty text", x.size(11), 0);
    }

    private static void beginsAnew() {
        Check.promise(3, "are the SHIRE from now on (year 0; nothing to undo, no IMAGES)");
        FollyShire x = acted();
        Check.taken(x, "another one", Check.read(x, "shire wind 7 rot 2;folly q arch sound 5"), 1);
        Check.due("year 0", x.size(8), 0);
        Check.due("acts", x.size(9), 0);
        Check.refused(x, "undo", x.undo(), 6);
        Check.due("images", x.size(10), 0);
        Check.refused(x, "back", x.back(0), 1);
        Check.due("the first image again", x.image(), 0);
        Check.due("wind", x.size(0), 7);
        Check.due("rot", x.size(1), 2);
        Check.due("hermits", x.size(4), 0);
        Check.due("estates", x.size(5), 0);
        Check.due("sound", x.folly(0, 1), 5);
        Check.refused(x, "no estate of the former one", x.estate(0, 0), Check.NONE, 1);
        Check.refused(x, "no folly of the former one", x.folly(1, 0), Check.NONE, 1);
        FollyShire y = acted();
        Check.read(y, GOOD);
        Check.due("the same text again: year 0", y.size(8), 0);
        Check.due("the same text again: sound as told", y.folly(0, 1), 5);
        Check.due("the same text again: no hermit", y.folly(0, 2), 0);
        FollyShire told = Check.made("shire wind 0 rot 0;folly f tower sound 1;folly g tower sound 1;sends f g;hermit f;"
            + "veiled f;signed f yes no;estate e g debt 1;estate d f debt 1");
        Check.read(told, "shire wind 0 rot 0;folly f tower sound 1;folly g tower sound 1");
        int[] due = {0, 0, 2, 0, 0, 0, 0, 0, 0, 0, 0, 0};
        for (int what = 0; what < due.length; what++) {
            Check.due("nothing of what was told before, size " + what, told.size(what), due[what]);
        }
        Check.due("f signs for none", told.folly(0, 4), 0);
        Check.due("g signs for none", told.folly(1, 4), 0);
        Check.due("nothing veiled, nothing signed: one fits", told.fits(), 1);
    }

    private static void beginsAnewOften() {
        Check.promise(3, "The first n bytes of THE TAPE (it is empty then) are the SHIRE from now on");
        String full = "shire wind 7 rot 1;folly f tower sound 9;folly g arch sound 8;folly h tower sound 7;sends f g;sends h g;"
            + "hermit h;veiled f;veiled h;signed f yes no;signed h no yes;estate e f debt 5;estate d g debt 6";
        FollyShire x = Check.made(full);
        String first = Check.state(x);
        int fits = x.fits();
        for (String between : new String[] {"", full, full + ";?", full + ";folly f", "shire wind 1 rot 1;folly d arch sound 3;veiled d"}) {
            Check.read(x, between);
            Check.taken(x, "the same text again", Check.read(x, full), 3);
            Check.same("the same text again", Check.state(x), first);
            Check.due("as many fit", x.fits(), fits);
        }
    }

    private static void refusesNumbers() {
        Check.promise(3, "NONE: 2 (THE TAPE stays)");
        FollyShire x = acted();
        x.feed(0x73686972, 0x65207769, 0x6e642039, 0x20726f74, 0x2038203b);
        x.feed(0x666f6c6c, 0x79206620, 0x61726368, 0x20736f75, 0x6e642037);
        String before = Check.state(x);
        for (int n : new int[] {-1, 41, Integer.MIN_VALUE, Integer.MAX_VALUE}) {
            Check.refused(x, "shire(" + n + ") of 40 bytes", x.shire(n), Check.NONE, 2);
            Check.due("shire(" + n + "): where", x.where(), Check.NONE);
            Check.same("shire(" + n + ")", Check.state(x), before);
        }
        Check.taken(x, "shire(40) of 40 bytes", x.shire(40), 1);
        Check.due("by the bytes that stayed", x.size(0), 9);
        FollyShire empty = new FollyShire();
        Check.refused(empty, "shire(1) of an empty tape", empty.shire(1), Check.NONE, 2);
        Check.refused(empty, "shire(-1) of an empty tape", empty.shire(-1), Check.NONE, 2);
        Check.refused(empty, "shire(0) of an empty tape", empty.shire(0), Check.NONE, 4);
    }

    private static void refusesFaults() {
        Check.promise(3, "4 (the SHIRE stays)");
        for (String faulty : new String[] {"", "shire wind 101", "shire wind 3 rot 4;folly a tower sound 0;folly b arch sound 9;"
            + "hermit a;sends a b;estate p b debt 9;veiled a;signed a yes lost;?"}) {
            FollyShire x = acted();
            String before = Check.state(x);
            int fits = x.fits();
            Check.refused(x, "'" + faulty + "'", Check.read(x, faulty), Check.NONE, 4);
            Check.same("'" + faulty + "'", Check.state(x), before);
            Check.due("its fits stay", x.fits(), fits);
            Check.due("its acts can be undone", x.undo(), true);
            Check.due("then it has no hermit", x.size(4), 0);
            Check.due("its image stays", x.back(0), true);
            Check.due("by which it is year 0", x.size(8), 0);
        }
    }

    private static void tellsTheFault() {
        Check.promise(4, "The FAULT of the latest shire() not refused by 2");
        String[] faulty = {"?", "shire wind 0 rot 0;hermit f", "shire wind 0 rot 0;shire", "shire wind 101",
            "shire wind 0 rot 0;folly a tower sound 1;folly b tower sound 1;folly c tower sound 1;folly d tower sound 1;"
            + "folly e tower sound 1;folly f tower sound 1;folly", "folly"};
        FollyShire x = new FollyShire();
        for (int number = 1; number <= 6; number++) {
            Check.refused(x, "a text with fault " + number, Check.read(x, faulty[number - 1]), Check.NONE, 4);
            Check.due("fault " + number, x.fault(), number);
            Check.refused(x, "then a number", x.shire(-1), Check.NONE, 2);
            Check.due("fault " + number + " stays", x.fault(), number);
            x.undo();
            x.served();
            Check.due("fault " + number + " stays behind other calls", x.fault(), number);
            Check.due("fault tells no number of trouble", x.trouble(), 1);
        }
        Check.promise(4, "0 without one");
        FollyShire y = new FollyShire();
        Check.due("of a new object", y.fault(), 0);
        y.shire(1);
        Check.due("behind a refusal by 2 alone", y.fault(), 0);
        Check.read(y, "?");
        Check.read(y, GOOD);
        Check.due("behind a good text", y.fault(), 0);
        y.shire(1);
        Check.due("behind a good text and a number", y.fault(), 0);
    }

    private static void tellsItsPlace() {
        Check.promise(5, "Its place, if the latest call that may be refused was by 4");
        FollyShire x = Check.made(GOOD);
        Check.read(x, "   ?");
        Check.due("the place", x.where(), 3);
        x.feed(0, 0, 0, 0, 0);
        x.fault();
        x.where();
        x.size(0);
        x.size(99);
        x.trouble();
        Check.ledThrows(x, 0);
        Check.due("it stays behind calls that are never refused", x.where(), 3);
        Check.due("and so does the trouble", x.trouble(), 4);
        Check.promise(5, "NONE else");
        Check.due("of a new object", new FollyShire().where(), Check.NONE);
        x.served();
        Check.due("behind a call that wasn't refused", x.where(), Check.NONE);
        // What was fed above goes off the tape again.
        x.shire(0);
        Check.read(x, "    ?");
        Check.due("its place again", x.where(), 4);
        x.folly(9, 0);
        Check.due("behind a refusal by 1", x.where(), Check.NONE);
        Check.read(x, "?");
        Check.due("its place is 0", x.where(), 0);
        x.shire(1);
        Check.due("behind a refusal by 2", x.where(), Check.NONE);
        Check.due("while the fault stays", x.fault(), 1);
        Check.read(x, "?");
        x.mend(0);
        Check.due("behind a refusal by 5", x.where(), Check.NONE);
        Check.read(x, "?");
        x.undo();
        Check.due("behind a refusal by 6", x.where(), Check.NONE);
        Check.read(x, "?");
        Check.read(x, GOOD);
        Check.due("behind a good text", x.where(), Check.NONE);
    }

    /** GOOD behind an image, a year and a hermit. */
    private static FollyShire acted() {
        FollyShire x = Check.made(GOOD);
        x.image();
        x.year();
        x.hire(0);
        return x;
    }

    private static void fill(FollyShire x, int feeds) {
        for (int i = 0; i < feeds; i++) {
            x.feed(BLANKS, BLANKS, BLANKS, BLANKS, BLANKS);
        }
    }

    private static byte[] bytes(String text) {
        return text.getBytes(java.nio.charset.StandardCharsets.ISO_8859_1);
    }
}
