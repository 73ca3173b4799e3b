/** Promises 46 to 52: years, mending, hermits, sending elsewhere, undoing, images. */
public final class ActsTest {
    private static final String SHIRE = "shire wind 0 rot 2;folly a tower sound 4;folly b tower sound 2;folly c arch sound 0;"
        + "sends a b;hermit b;estate p b debt 1";

    public static void main(String[] args) {
        years();
        mending();
        hiring();
        sending();
        undoing();
        images();
        Check.end();
    }

    private static void years() {
        FollyShire x = Check.made(SHIRE);
        Check.due("b comes to be a ruin", x.year(), 2);
        Check.due("a is sound for", x.folly(0, 1), 2);
        Check.due("the year", x.size(8), 1);
        Check.due("a comes to be a ruin", x.year(), 1);
        Check.due("none more", x.year(), 0);
        Check.due("not below 0", x.folly(0, 1), 0);
        Check.due("the year", x.size(8), 3);
        Check.due("not refused", x.trouble(), 0);
        // Only the document's 512 calls are promised; the class keeps to 999 years all the same.
        FollyShire old = Check.made(SHIRE);
        for (int i = 0; i < 999; i++) {
            old.year();
        }
        Check.due("year 999", old.size(8), 999);
        Check.refused(old, "999 went by", old.year(), Check.NONE, 3);
        Check.due("still", old.size(8), 999);
        FollyShire none = new FollyShire();
        Check.refused(none, "year of none", none.year(), Check.NONE, 1);
    }

    private static void mending() {
        FollyShire x = Check.made(SHIRE);
        Check.refused(x, "a is as told", x.mend(0), Check.NONE, 5);
        Check.due("no act", x.size(9), 0);
        x.year();
        Check.due("a as told", x.mend(0), 4);
        Check.due("a is sound for", x.folly(0, 1), 4);
        Check.due("b is a ruin still", x.folly(1, 1), 0);
        Check.due("b as told", x.mend(1), 2);
        Check.refused(x, "c was told as a ruin", x.mend(2), Check.NONE, 5);
        Check.refused(x, "mend 3", x.mend(3), Check.NONE, 1);
        Check.refused(x, "mend -1", x.mend(-1), Check.NONE, 1);
        Check.due("three acts", x.size(9), 3);
    }

    private static void hiring() {
        FollyShire x = Check.made(SHIRE);
        Check.due("b's is dismissed", x.hire(1), 0);
        Check.due("a's is hired", x.hire(0), 1);
        Check.due("a ruin's, too", x.hire(2), 1);
        Check.due("hermits", x.size(4), 2);
        Check.due("b has none", x.folly(1, 2), 0);
        Check.due("b's again", x.hire(1), 1);
        Check.refused(x, "hire 3", x.hire(3), Check.NONE, 1);
        Check.refused(x, "hire -1", x.hire(-1), Check.NONE, 1);
        Check.due("four acts", x.size(9), 4);
    }

    private static void sending() {
        FollyShire x = Check.made(SHIRE);
        Check.refused(x, "a sends to b", x.send(0, 1), 5);
        Check.refused(x, "b sends nowhere", x.send(1, 1), 5);
        Check.due("no act", x.size(9), 0);
        Check.due("a to c", x.send(0, 2), true);
        Check.due("a to c", x.folly(0, 3), 2);
        Check.due("a nowhere", x.send(0, 0), true);
        Check.due("a nowhere", x.folly(0, 3), -2);
        Check.due("none send", x.size(3), 0);
        Check.due("c to a", x.send(2, 0), true);
        Check.due("not refused", x.trouble(), 0);
        Check.refused(x, "send 0, 3", x.send(0, 3), 1);
        Check.refused(x, "send 3, 0", x.send(3, 0), 1);
        Check.refused(x, "send 3, 3", x.send(3, 3), 1);
        Check.refused(x, "send -1, 0", x.send(-1, 0), 1);
        Check.refused(x, "send 0, -1", x.send(0, -1), 1);
        Check.due("three acts", x.size(9), 3);
    }

    private static void undoing() {
        FollyShire x = Check.made(SHIRE);
        Check.refused(x, "nothing", x.undo(), 6);
        x.year();
        x.mend(1);
        x.hire(1);
        x.send(0, 2);
        Check.due("b signs yes", x.signs(1, true), 1);
        Check.due("undo send", x.undo(), true);
        Check.due("not refused", x.trouble(), 0);
        Check.due("a to b", x.folly(0, 3), 1);
        Check.due("undo hire", x.undo(), true);
        Check.due("b's hermit", x.folly(1, 2), 1);
        Check.due("undo mend", x.undo(), true);
        Check.due("b is a ruin", x.folly(1, 1), 0);
        Check.due("undo year", x.undo(), true);
        Check.due("b is sound", x.folly(1, 1), 2);
        Check.due("a is sound", x.folly(0, 1), 4);
        Check.due("year 0", x.size(8), 0);
        Check.refused(x, "nothing more", x.undo(), 6);
        for (int i = 0; i < 20; i++) {
            x.year();
        }
        Check.due("16 are kept", x.size(9), 16);
        for (int i = 0; i < 16; i++) {
            Check.due("undo " + i, x.undo(), true);
            Check.due("year behind undo " + i, x.size(8), 19 - i);
        }
        Check.refused(x, "the 17th", x.undo(), 6);
        Check.due("year 4", x.size(8), 4);
    }

    private static void images() {
        FollyShire x = Check.made(SHIRE);
        Check.due("the first", x.image(), 0);
        x.year();
        x.hire(1);
        Check.due("the second", x.image(), 1);
        x.send(0, 0);
        x.mend(0);
        Check.due("the third", x.image(), 2);
        Check.refused(x, "no room", x.image(), Check.NONE, 3);
        Check.due("images are no acts", x.size(9), 4);
        Check.due("back to the second", x.back(1), true);
        Check.due("not refused", x.trouble(), 0);
        Check.due("year 1", x.size(8), 1);
        Check.due("b's hermit was dismissed", x.size(4), 0);
        Check.due("a to b", x.folly(0, 3), 1);
        Check.due("a sound for", x.folly(0, 1), 2);
        Check.due("nothing to undo", x.size(9), 0);
        Check.refused(x, "nothing to undo", x.undo(), 6);
        Check.due("all stay", x.size(10), 3);
        x.year();
        Check.due("an act behind it", x.undo(), true);
        Check.due("back to the third", x.back(2), true);
        Check.due("a nowhere", x.folly(0, 3), -2);
        Check.due("a mended", x.folly(0, 1), 4);
        Check.due("back to the first", x.back(0), true);
        Check.due("year 0", x.size(8), 0);
        Check.due("b's hermit", x.folly(1, 2), 1);
        Check.due("b sound", x.folly(1, 1), 2);
        Check.refused(x, "still no room", x.image(), Check.NONE, 3);
        Check.refused(x, "back 3", x.back(3), 1);
        Check.refused(x, "back -1", x.back(-1), 1);
        FollyShire none = new FollyShire();
        Check.refused(none, "image of none", none.image(), Check.NONE, 1);
        Check.refused(none, "back of none", none.back(0), 1);
        FollyShire fresh = Check.made(SHIRE);
        Check.refused(fresh, "back to none yet", fresh.back(0), 1);
    }
}
