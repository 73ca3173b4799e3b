/** The edges of ACTS, UNDO and IMAGES and of promises 46 to 52, sentence by sentence. */
public final class ActsEdgesTest {
    private static final String SHIRE = "shire wind 0 rot 2;folly a tower sound 4;folly b tower sound 2;folly c arch sound 0;"
        + "sends a b;hermit b;estate p b debt 1";

    public static void main(String[] args) {
        year();
        yearsWentBy();
        mend();
        hire();
        send();
        undo();
        undoKeeps16();
        undoSkipsRefused();
        image();
        imagesHoldAll();
        back();
        backUndoesNothing();
        Check.end(46, 52);
    }

    private static void year() {
        Check.promise(46, "YEAR: follies that come to be RUINS, as bits.");
        FollyShire x = Check.made("shire wind 0 rot 3;folly a tower sound 0;folly b tower sound 1;folly c tower sound 3;"
            + "folly d tower sound 4;folly e tower sound 6;folly f tower sound 2");
        Check.taken(x, "below rot and just rot, but no ruin that was one", x.year(), 2 + 4 + 32);
        Check.taken(x, "the next year", x.year(), 8 + 16);
        Check.taken(x, "none is left", x.year(), 0);
        FollyShire all = Check.made("shire wind 0 rot 9;folly a tower sound 9;folly b tower sound 9;folly c tower sound 9;"
            + "folly d tower sound 9;folly e tower sound 9;folly f tower sound 9");
        Check.taken(all, "all six", all.year(), 63);
        FollyShire still = Check.made("shire wind 0 rot 0;folly a tower sound 1;folly b tower sound 0");
        Check.taken(still, "by a rot of 0", still.year(), 0);
        FollyShire grotto = Check.made("shire wind 0 rot 1;folly a grotto sound 1");
        Check.taken(grotto, "a grotto, too", grotto.year(), 1);
        Check.promise(46, "NONE: 1 (no SHIRE)");
        Check.needsShire("year", Check.NONE, FollyShire::year);
    }

    private static void yearsWentBy() {
        Check.promise(46, "3 (999 went by).");
        FollyShire x = Check.made(SHIRE);
        for (int i = 1; i <= 500; i++) {
            Check.due("year " + i, x.year() != Check.NONE, true);
        }
        Check.due("500 went by", x.size(8), 500);
        // Beyond the 512 calls that are promised; without a promise it is kept all the same.
        for (int i = 501; i < 999; i++) {
            x.year();
        }
        Check.taken(x, "the 999th", x.year(), 0);
        Check.due("999 went by", x.size(8), 999);
        Check.refused(x, "one more", x.year(), Check.NONE, 3);
        Check.due("still 999", x.size(8), 999);
        x.undo();
        Check.due("998 by undoing", x.size(8), 998);
        Check.taken(x, "the 999th again", x.year(), 0);
    }

    private static void mend() {
        Check.promise(47, "MEND: for how many years it is sound then (as told).");
        FollyShire x = Check.made(SHIRE);
        x.year();
        Check.taken(x, "a, which is sound yet", x.mend(0), 4);
        Check.taken(x, "b, a ruin", x.mend(1), 2);
        Check.due("a is sound for", x.folly(0, 1), 4);
        Check.due("b is sound for", x.folly(1, 1), 2);
        FollyShire most = Check.made("shire wind 0 rot 1;folly a tower sound 99");
        most.year();
        Check.taken(most, "99, of which one is gone", most.mend(0), 99);
        Check.promise(47, "NONE: 1; 5 (it is).");
        String before = Check.state(x);
        Check.refused(x, "a is", x.mend(0), Check.NONE, 5);
        Check.refused(x, "b is", x.mend(1), Check.NONE, 5);
        Check.refused(x, "c is, as told: a ruin", x.mend(2), Check.NONE, 5);
        for (int f : new int[] {-1, 3, Integer.MIN_VALUE, Integer.MAX_VALUE}) {
            Check.refused(x, "mend " + f, x.mend(f), Check.NONE, 1);
        }
        Check.same("refused ones", Check.state(x), before);
        FollyShire still = Check.made("shire wind 0 rot 0;folly a tower sound 1");
        still.year();
        Check.refused(still, "by a rot of 0 it is", still.mend(0), Check.NONE, 5);
        Check.needsShire("mend", Check.NONE, none -> none.mend(0));
    }

    private static void hire() {
        Check.promise(48, "HIRE: 1 if it has a hermit then, else 0.");
        FollyShire x = Check.made(SHIRE);
        Check.taken(x, "a's is hired", x.hire(0), 1);
        Check.taken(x, "a's is dismissed", x.hire(0), 0);
        Check.taken(x, "b's is dismissed", x.hire(1), 0);
        Check.taken(x, "b's is hired again", x.hire(1), 1);
        Check.taken(x, "a ruin's is hired", x.hire(2), 1);
        Check.due("hermits", x.size(4), 2);
        Check.due("five acts", x.size(9), 5);
        FollyShire six = Check.made("shire wind 0 rot 0;folly a tower sound 1;folly b tower sound 1;folly c tower sound 1;"
            + "folly d tower sound 1;folly e tower sound 1;folly f tower sound 1");
        for (int f = 0; f < 6; f++) {
            Check.taken(six, "of six, " + f, six.hire(f), 1);
            Check.due("hermits then", six.size(4), f + 1);
        }
        Check.promise(48, "NONE: 1.");
        String before = Check.state(x);
        for (int f : new int[] {-1, 3, Integer.MIN_VALUE, Integer.MAX_VALUE}) {
            Check.refused(x, "hire " + f, x.hire(f), Check.NONE, 1);
        }
        Check.same("refused ones", Check.state(x), before);
        Check.within(x, "hire", 0, 2, 1, x::hire);
        Check.needsShire("hire", Check.NONE, none -> none.hire(0));
    }

    private static void send() {
        Check.promise(49, "SEND (its own number: nowhere): true");
        FollyShire x = Check.made(SHIRE);
        Check.taken(x, "a nowhere", x.send(0, 0) ? 1 : 0, 1);
        Check.due("a sends nowhere", x.folly(0, 3), -2);
        Check.taken(x, "c to a", x.send(2, 0) ? 1 : 0, 1);
        Check.due("c sends to a", x.folly(2, 3), 0);
        Check.taken(x, "a to c", x.send(0, 2) ? 1 : 0, 1);
        Check.taken(x, "a to b", x.send(0, 1) ? 1 : 0, 1);
        Check.due("two send", x.size(3), 2);
        Check.promise(49, "false: 1; 5 (it does).");
        String before = Check.state(x);
        Check.refused(x, "a to b", x.send(0, 1), 5);
        Check.refused(x, "b nowhere", x.send(1, 1), 5);
        Check.refused(x, "c to a", x.send(2, 0), 5);
        for (int f : new int[] {-1, 3, Integer.MIN_VALUE, Integer.MAX_VALUE}) {
            Check.refused(x, "send of " + f, x.send(f, 0), 1);
            Check.refused(x, "send to " + f, x.send(0, f), 1);
            Check.refused(x, "send of and to " + f, x.send(f, f), 1);
        }
        Check.refused(x, "nowhere isn't told by -2", x.send(0, -2), 1);
        Check.same("refused ones", Check.state(x), before);
        Check.needsShire("send", 0, none -> none.send(0, 0) ? 1 : 0);
    }

    private static void undo() {
        Check.promise(50, "UNDO: true; false: 6.");
        FollyShire x = Check.made(SHIRE);
        Check.refused(x, "nothing", x.undo(), 6);
        String[] states = new String[5];
        states[0] = Check.state(x);
        x.year();
        states[1] = Check.state(x);
        x.mend(1);
        states[2] = Check.state(x);
        x.hire(0);
        states[3] = Check.state(x);
        x.send(0, 2);
        states[4] = Check.state(x);
        for (int left = 3; left >= 0; left--) {
            Check.taken(x, "undo, " + left + " left", x.undo() ? 1 : 0, 1);
            Check.same("undo, " + left + " left", Check.state(x), states[left]);
        }
        Check.refused(x, "nothing more", x.undo(), 6);
        Check.same("nothing more", Check.state(x), states[0]);
        FollyShire none = new FollyShire();
        Check.refused(none, "of no shire", none.undo(), 6);
    }

    private static void undoKeeps16() {
        Check.term("UNDO: the latest (16 are kept).");
        for (int acts : new int[] {1, 15, 16, 17, 18, 40}) {
            FollyShire x = Check.made("shire wind 0 rot 1;folly a tower sound 99");
            for (int i = 1; i <= acts; i++) {
                x.year();
                Check.due("kept behind " + i, x.size(9), Math.min(16, i));
            }
            int kept = Math.min(16, acts);
            for (int i = 1; i <= kept; i++) {
                Check.due("undo " + i + " of " + acts, x.undo(), true);
                Check.due("the year then", x.size(8), acts - i);
                Check.due("sound then", x.folly(0, 1), 99 - acts + i);
                Check.due("kept then", x.size(9), kept - i);
            }
            Check.refused(x, "undo behind " + kept, x.undo(), 6);
            Check.due("the year stays", x.size(8), acts - kept);
            x.year();
            Check.due("an act again", x.size(9), 1);
        }
    }

    private static void undoSkipsRefused() {
        Check.term("ACTS: YEAR, MEND, HIRE (or dismiss) a hermit, SEND.");
        FollyShire x = Check.made(SHIRE);
        x.mend(0);
        x.mend(9);
        x.hire(9);
        x.send(0, 1);
        x.send(9, 9);
        x.back(0);
        x.undo();
        Check.due("refused ones are none", x.size(9), 0);
        x.image();
        x.served();
        x.plan(4);
        x.change();
        x.signsIn(0, true, 60);
        x.yeses(0, true, 0, 60);
        Check.due("nor are other calls", x.size(9), 0);
        x.year();
        x.hire(0);
        x.hire(0);
        x.send(0, 0);
        x.mend(0);
        Check.due("these are", x.size(9), 5);
        x.mend(0);
        x.undo();
        Check.due("undo is none, but one less", x.size(9), 4);
        Check.due("the mending is undone, not what was refused", x.folly(0, 1), 2);
    }

    private static void image() {
        Check.term("IMAGES: up to 3");
        FollyShire x = Check.made(SHIRE);
        for (int i = 0; i < 3; i++) {
            Check.due("images", x.size(10), i);
            Check.taken(x, "image " + i, x.image(), i);
        }
        Check.due("all three", x.size(10), 3);
        Check.promise(51, "An IMAGE: its number.");
        FollyShire y = Check.made(SHIRE);
        Check.taken(y, "the first", y.image(), 0);
        y.year();
        Check.taken(y, "the second", y.image(), 1);
        y.back(0);
        Check.taken(y, "the third, behind going back", y.image(), 2);
        Check.promise(51, "NONE: 1 (no SHIRE); 3.");
        String before = Check.state(x);
        Check.refused(x, "the fourth", x.image(), Check.NONE, 3);
        Check.refused(x, "the fourth again", x.image(), Check.NONE, 3);
        Check.same("refused ones", Check.state(x), before);
        x.back(2);
        Check.refused(x, "still no room, gone back", x.image(), Check.NONE, 3);
        Check.needsShire("image", Check.NONE, FollyShire::image);
    }

    private static void imagesHoldAll() {
        Check.promise(52, "All is as by an IMAGE (all IMAGES stay): true");
        FollyShire x = Check.made(SHIRE);
        String[] then = new String[3];
        for (int i = 0; i < 3; i++) {
            then[i] = still(x);
            x.image();
            x.year();
            x.hire(i);
            x.send(i, (i + 2) % 3);
            x.mend(0);
        }
        String end = still(x);
        for (int i : new int[] {2, 0, 1, 1, 0, 2}) {
            Check.taken(x, "back to " + i, x.back(i) ? 1 : 0, 1);
            Check.same("back to " + i, still(x), then[i]);
            Check.due("all images stay", x.size(10), 3);
            x.year();
            x.hire(1);
        }
        Check.due("no image is as it was last", end.equals(then[0]) || end.equals(then[1]) || end.equals(then[2]), false);
    }

    /** The state but for how many ACTS and IMAGES there are. */
    private static String still(FollyShire x) {
        StringBuilder state = new StringBuilder().append(x.size(8)).append(' ').append(x.size(3)).append(' ').append(x.size(4));
        for (int f = 0; f < 3; f++) {
            state.append(' ').append(x.folly(f, 1)).append(' ').append(x.folly(f, 2)).append(' ').append(x.folly(f, 3));
        }
        return state.toString();
    }

    private static void back() {
        Check.promise(52, "false: 1.");
        FollyShire x = Check.made(SHIRE);
        Check.refused(x, "back 0, none made", x.back(0), 1);
        x.image();
        x.year();
        String before = Check.state(x);
        for (int image : new int[] {-1, 1, 2, 3, Integer.MIN_VALUE, Integer.MAX_VALUE}) {
            Check.refused(x, "back " + image + " of one", x.back(image), 1);
        }
        Check.same("refused ones", Check.state(x), before);
        x.image();
        x.image();
        Check.refused(x, "back 3 of three", x.back(3), 1);
        Check.taken(x, "back 2 of three", x.back(2) ? 1 : 0, 1);
        FollyShire none = new FollyShire();
        Check.refused(none, "of no shire", none.back(0), 1);
    }

    private static void backUndoesNothing() {
        Check.term("gone back to one, nothing can be undone.");
        FollyShire x = Check.made(SHIRE);
        x.year();
        x.year();
        x.image();
        x.year();
        Check.due("three acts", x.size(9), 3);
        x.back(5);
        Check.due("a refused one leaves them", x.size(9), 3);
        x.back(0);
        Check.due("none", x.size(9), 0);
        Check.refused(x, "undo", x.undo(), 6);
        Check.due("the image's year stays", x.size(8), 2);
        x.year();
        Check.due("an act behind it", x.size(9), 1);
        Check.taken(x, "which can be undone", x.undo() ? 1 : 0, 1);
        Check.due("to the image's year", x.size(8), 2);
        Check.refused(x, "and no more", x.undo(), 6);
        FollyShire y = Check.made(SHIRE);
        y.year();
        y.image();
        y.undo();
        Check.due("an image stays when what led to it is undone", y.back(0), true);
        Check.due("its year", y.size(8), 1);
    }
}
