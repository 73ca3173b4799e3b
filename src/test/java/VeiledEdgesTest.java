/** The edges of FITS and TRY and of promises 31 to 36, sentence by sentence. */
public final class VeiledEdgesTest {
    private static final String LONE = "shire wind 0 rot 0;folly a tower sound 1";
    private static final String THREE = "shire wind 0 rot 1;folly a tower sound 1;folly b tower sound 1;folly c tower sound 1;"
        + "veiled c;veiled a;veiled b";
    private static final String SIX = "shire wind 0 rot 0;folly a tower sound 1;folly b tower sound 1;folly c tower sound 1;"
        + "folly d tower sound 1;folly e tower sound 1;folly f tower sound 1;veiled f";

    public static void main(String[] args) {
        fits();
        asTold();
        fitAt();
        shapedBy();
        tryLetter();
        tryLeaves();
        judge();
        Check.end(31, 36);
    }

    private static void fits() {
        Check.promise(31, "FITS: how many.");
        due(Check.made(LONE), "none veiled, none signed", 1);
        due(Check.made(LONE + ";signed a yes yes"), "none veiled, so", 1);
        due(Check.made(LONE + ";signed a yes no"), "none veiled, not so", 0);
        due(Check.made(LONE + ";veiled a"), "one veiled", 5);
        due(Check.made(LONE + ";folly b tower sound 1;veiled a;veiled b"), "two veiled", 25);
        due(Check.made(THREE), "three veiled", 125);
        due(Check.made(THREE + ";signed a yes yes;signed a yes no"), "signed both ways", 0);
        due(Check.made(THREE + ";signed a yes lost;signed b no lost;signed c yes lost"), "three grottoes", 1);
        due(Check.made(THREE + ";signed a yes yes;signed a no yes;signed b yes no;signed b no yes;signed c no yes"),
            "five signed", 2);
        due(Check.made(LONE.replace("sound 1", "sound 0") + ";veiled a;signed a yes lost"), "a ruin of any shape", 5);
        due(Check.made(LONE.replace("sound 1", "sound 0") + ";veiled a;signed a yes yes"), "a ruin signs nothing", 0);
        due(Check.made(LONE + ";hermit a;veiled a;signed a yes no"), "a hermit's no by any shape", 5);
        due(Check.made(LONE + ";folly b tower sound 1;sends a b;sends b a;veiled a;signed a no lost"), "a round by any shape", 5);
        Check.promise(31, "NONE: 1 (no SHIRE).");
        Check.needsShire("fits", Check.NONE, FollyShire::fits);
    }

    private static void due(FollyShire x, String what, int count) {
        Check.taken(x, what, x.fits(), count);
    }

    private static void asTold() {
        Check.term("FITS: shapes of all veiled follies by which each letter told as signed came back so, in year 0, all else as told");
        FollyShire x = Check.made(THREE + ";sends a b;hermit c;signed a yes yes;signed c yes no");
        int fits = x.fits();
        int letter = x.tryLetter();
        int leaves = x.tryLeaves();
        x.year();
        x.hire(1);
        x.hire(2);
        x.send(0, 0);
        Check.due("fits behind acts", x.fits(), fits);
        Check.due("try behind acts", x.tryLetter(), letter);
        Check.due("leaves behind acts", x.tryLeaves(), leaves);
        FollyShire odd = Check.made(LONE + ";veiled a;signed a yes yes;signed a no no");
        Check.due("a tower or a pyramid", odd.fits(), 2);
        Check.due("a tower", odd.fitAt(0, 0), 0);
        Check.due("a pyramid", odd.fitAt(1, 0), 3);
        odd.year();
        Check.due("a pyramid in an odd year, too", odd.fitAt(1, 0), 3);
        Check.due("both in an odd year", odd.fits(), 2);
    }

    private static void fitAt() {
        Check.promise(32, "The shape of the k-th veiled folly by the i-th (the first one counts most).");
        FollyShire x = Check.made(THREE);
        for (int i : new int[] {0, 1, 4, 5, 24, 25, 124}) {
            Check.taken(x, "the first's by " + i, x.fitAt(i, 0), i / 25);
            Check.taken(x, "the second's by " + i, x.fitAt(i, 1), i / 5 % 5);
            Check.taken(x, "the third's by " + i, x.fitAt(i, 2), i % 5);
        }
        FollyShire order = Check.made(THREE + ";signed c yes lost;signed a yes no");
        Check.due("c is the first, as told: a grotto", order.fitAt(0, 0), 4);
        Check.due("a is the second: an arch", order.fitAt(0, 1), 1);
        Check.promise(32, "NONE: 1 (i, k, too).");
        Check.within(x, "i", 0, 124, 1, i -> x.fitAt(i, 0));
        Check.within(x, "k", 0, 2, 1, k -> x.fitAt(0, k));
        FollyShire two = Check.made(LONE + ";veiled a;signed a yes yes;signed a no no");
        Check.within(two, "i of two", 0, 1, 1, i -> two.fitAt(i, 0));
        Check.within(two, "k of one", 0, 0, 1, k -> two.fitAt(1, k));
        FollyShire open = Check.made(LONE);
        Check.refused(open, "none veiled, though one fits", open.fitAt(0, 0), Check.NONE, 1);
        FollyShire none = Check.made(LONE + ";veiled a;signed a yes yes;signed a yes no");
        Check.refused(none, "no fits", none.fitAt(0, 0), Check.NONE, 1);
        Check.needsShire("fitAt", Check.NONE, new0 -> new0.fitAt(0, 0));
    }

    private static void shapedBy() {
        Check.promise(33, "By how many of them it has a shape.");
        FollyShire x = Check.made(THREE);
        for (int shape = 0; shape < 5; shape++) {
            for (int k = 0; k < 3; k++) {
                Check.taken(x, "of 125, " + k + " by " + shape, x.shapedBy(k, shape), 25);
            }
        }
        FollyShire none = Check.made(LONE + ";veiled a;signed a yes yes;signed a yes no");
        Check.taken(none, "no fits", none.shapedBy(0, 0), 0);
        FollyShire grotto = Check.made(LONE + ";veiled a;signed a yes lost");
        int[] due = {0, 0, 0, 0, 1};
        for (int shape = 0; shape < 5; shape++) {
            Check.taken(grotto, "a grotto by " + shape, grotto.shapedBy(0, shape), due[shape]);
        }
        Check.promise(33, "NONE: 1 (k); 2 (0 .. 4).");
        Check.within(x, "k", 0, 2, 1, k -> x.shapedBy(k, 0));
        Check.within(x, "shape", 0, 4, 2, shape -> x.shapedBy(2, shape));
        Check.refused(x, "neither k nor shape", x.shapedBy(3, 5), Check.NONE, 1);
        FollyShire open = Check.made(LONE);
        Check.refused(open, "none veiled", open.shapedBy(0, 0), Check.NONE, 1);
        Check.needsShire("shapedBy", Check.NONE, new0 -> new0.shapedBy(0, 5));
    }

    private static void tryLetter() {
        Check.term("TRY: the letter by which, it being told how it comes back, at most fewest FITS are left, the first such.");
        FollyShire last = Check.made(SIX + ";signed f no yes");
        Check.taken(last, "an arch or an obelisk: the last letter", last.tryLetter(), 11);
        Check.taken(last, "one is left", last.tryLeaves(), 1);
        FollyShire ahead = Check.made(SIX);
        Check.taken(ahead, "of five shapes: no, yes, yes, no, lost", ahead.tryLetter(), 10);
        Check.taken(ahead, "two are left at most", ahead.tryLeaves(), 2);
        FollyShire three = Check.made(THREE);
        Check.taken(three, "of three alike the first", three.tryLetter(), 0);
        Check.taken(three, "of 125 fifty are left at most", three.tryLeaves(), 50);
        FollyShire alike = Check.made(SIX + ";signed f yes yes;signed f no no");
        Check.taken(alike, "none parts a tower and a pyramid: the first", alike.tryLetter(), 0);
        Check.taken(alike, "both are left", alike.tryLeaves(), 2);
        Check.promise(34, "TRY; -2 no FITS.");
        FollyShire none = Check.made(LONE + ";veiled a;signed a yes yes;signed a yes no");
        Check.taken(none, "no fits", none.tryLetter(), -2);
        FollyShire untrue = Check.made(LONE + ";signed a yes no");
        Check.taken(untrue, "none veiled, not so", untrue.tryLetter(), -2);
        FollyShire open = Check.made(LONE);
        Check.taken(open, "none veiled", open.tryLetter(), 0);
        Check.promise(34, "NONE: 1 (no SHIRE).");
        Check.needsShire("tryLetter", Check.NONE, FollyShire::tryLetter);
    }

    private static void tryLeaves() {
        Check.promise(35, "How many are left at most then; -2 likewise.");
        FollyShire none = Check.made(LONE + ";veiled a;signed a yes yes;signed a yes no");
        Check.taken(none, "no fits", none.tryLeaves(), -2);
        FollyShire open = Check.made(LONE);
        Check.taken(open, "none veiled", open.tryLeaves(), 1);
        FollyShire ruin = Check.made(LONE.replace("sound 1", "sound 0") + ";veiled a");
        Check.taken(ruin, "all are left", ruin.tryLeaves(), 5);
        Check.promise(35, "NONE: 1 (no SHIRE).");
        Check.needsShire("tryLeaves", Check.NONE, FollyShire::tryLeaves);
    }

    private static void judge() {
        Check.promise(36, "The first signed, as told, that isn't so by shapes as told; -2.");
        String so = LONE;
        for (int i = 0; i < 5; i++) {
            FollyShire not = Check.made(so + ";signed a yes no" + (i < 4 ? ";signed a yes lost" : ""));
            Check.taken(not, "the first that isn't is " + i, not.judge(), i);
            FollyShire all = Check.made(so);
            Check.taken(all, "all are so of " + i, all.judge(), -2);
            so += ";signed a yes yes";
        }
        FollyShire five = Check.made(so);
        Check.taken(five, "all five", five.judge(), -2);
        FollyShire veiled = Check.made(LONE + ";veiled a;signed a yes no");
        Check.taken(veiled, "by the shape told, though veiled", veiled.judge(), 0);
        FollyShire acts = Check.made("shire wind 0 rot 9;folly a pyramid sound 1;signed a yes yes;signed a no no");
        acts.year();
        Check.taken(acts, "in year 0, not NOW", acts.judge(), -2);
        FollyShire hired = Check.made(LONE + ";signed a yes yes");
        hired.hire(0);
        Check.taken(hired, "as told, whatever was done", hired.judge(), -2);
        Check.promise(36, "NONE: 1 (no SHIRE).");
        Check.needsShire("judge", Check.NONE, FollyShire::judge);
    }
}
