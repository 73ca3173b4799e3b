/** Promises 31 to 36: which shapes fit the letters told as signed, which letter to try, the judge. */
public final class VeiledTest {
    private static final String SHIRE = "shire wind 50 rot 3;folly a tower sound 2;folly b arch sound 2;folly c tower sound 2;"
        + "sends a b;sends b c;veiled c;veiled a";

    public static void main(String[] args) {
        fits();
        notByActs();
        judges();
        edges();
        wrongNumbers();
        Check.end();
    }

    private static void fits() {
        FollyShire x = Check.made(SHIRE + ";signed a yes yes");
        int[][] due = {{0, 1}, {1, 0}, {1, 2}, {1, 3}, {2, 0}, {2, 1}, {2, 2}, {2, 3}, {3, 1}};
        Check.due("fits", x.fits(), due.length);
        for (int i = 0; i < due.length; i++) {
            Check.due("c by " + i, x.fitAt(i, 0), due[i][0]);
            Check.due("a by " + i, x.fitAt(i, 1), due[i][1]);
        }
        int[] c = {1, 3, 4, 1, 0};
        int[] a = {2, 3, 2, 2, 0};
        for (int shape = 0; shape < 5; shape++) {
            Check.due("c shaped " + shape, x.shapedBy(0, shape), c[shape]);
            Check.due("a shaped " + shape, x.shapedBy(1, shape), a[shape]);
        }
        Check.due("try a no", x.tryLetter(), 0);
        Check.due("that leaves five at most", x.tryLeaves(), 5);
        FollyShire y = Check.made("shire wind 0 rot 0;folly a tower sound 1;folly b tower sound 1;veiled b");
        Check.due("all five", y.fits(), 5);
        Check.due("b no: no, yes, yes, no, lost", y.tryLetter(), 2);
        Check.due("leaves two", y.tryLeaves(), 2);
    }

    private static void notByActs() {
        FollyShire x = Check.made(SHIRE + ";signed a yes yes");
        x.hire(2);
        x.send(0, 0);
        x.year();
        Check.due("fits as told", x.fits(), 9);
        Check.due("fitAt as told", x.fitAt(8, 0), 3);
        Check.due("shapedBy as told", x.shapedBy(0, 2), 4);
        Check.due("try as told", x.tryLetter(), 0);
        Check.due("leaves as told", x.tryLeaves(), 5);
        Check.due("judge as told", x.judge(), 0);
        Check.due("the shapes stay", x.folly(2, 0), 0);
    }

    private static void judges() {
        Check.due("a yes comes back no", Check.made(SHIRE + ";signed a yes no").judge(), -2);
        Check.due("the first that isn't so", Check.made(SHIRE + ";signed a yes no;signed b yes yes;signed c no yes").judge(), 1);
        Check.due("lost, but it isn't", Check.made(SHIRE + ";signed a yes lost").judge(), 0);
        Check.due("without any", Check.made(SHIRE).judge(), -2);
        Check.due("a round is lost", Check.made(SHIRE + ";sends c a;signed a yes lost;signed a no no").judge(), 1);
    }

    private static void edges() {
        FollyShire none = Check.made(SHIRE + ";signed a yes yes;signed a yes no");
        Check.due("no fits", none.fits(), 0);
        Check.due("no fits: try", none.tryLetter(), -2);
        Check.due("no fits: leaves", none.tryLeaves(), -2);
        Check.due("no fits: shapedBy", none.shapedBy(0, 0), 0);
        Check.due("-2 is no refusal", none.trouble(), 0);
        Check.refused(none, "no fits: fitAt", none.fitAt(0, 0), Check.NONE, 1);
        FollyShire grotto = Check.made("shire wind 0 rot 0;folly a tower sound 1;veiled a;signed a yes lost");
        Check.due("a grotto alone", grotto.fits(), 1);
        Check.due("a grotto", grotto.fitAt(0, 0), 4);
        FollyShire ruin = Check.made("shire wind 0 rot 0;folly a tower sound 0;veiled a;signed a yes lost");
        Check.due("any ruin", ruin.fits(), 5);
        Check.due("any ruin: try", ruin.tryLetter(), 0);
        Check.due("any ruin: leaves", ruin.tryLeaves(), 5);
        FollyShire hermit = Check.made("shire wind 0 rot 0;folly a tower sound 1;hermit a;veiled a;signed a yes no");
        Check.due("any with a hermit", hermit.fits(), 5);
        FollyShire most = Check.made("shire wind 0 rot 0;folly a tower sound 1;folly b tower sound 1;folly c tower sound 1;"
            + "veiled c;veiled b;veiled a");
        Check.due("of three", most.fits(), 125);
        Check.due("the last's first", most.fitAt(124, 0), 4);
        Check.due("the second's last", most.fitAt(1, 2), 1);
        Check.due("the sixth's second", most.fitAt(5, 1), 1);
        Check.due("the 26th's first", most.fitAt(25, 0), 1);
        Check.refused(most, "the 126th", most.fitAt(125, 0), Check.NONE, 1);
        FollyShire open = Check.made("shire wind 0 rot 0;folly a tower sound 1;signed a yes yes");
        Check.due("none veiled, all so", open.fits(), 1);
        Check.refused(open, "none veiled: fitAt", open.fitAt(0, 0), Check.NONE, 1);
        Check.due("none veiled, not so", Check.made("shire wind 0 rot 0;folly a tower sound 1;signed a yes no").fits(), 0);
    }

    private static void wrongNumbers() {
        FollyShire x = Check.made(SHIRE + ";signed a yes yes");
        Check.refused(x, "fitAt 9, 0", x.fitAt(9, 0), Check.NONE, 1);
        Check.refused(x, "fitAt -1, 0", x.fitAt(-1, 0), Check.NONE, 1);
        Check.refused(x, "fitAt 0, 2", x.fitAt(0, 2), Check.NONE, 1);
        Check.refused(x, "fitAt 0, -1", x.fitAt(0, -1), Check.NONE, 1);
        Check.refused(x, "shapedBy 2, 0", x.shapedBy(2, 0), Check.NONE, 1);
        Check.refused(x, "shapedBy -1, 9", x.shapedBy(-1, 9), Check.NONE, 1);
        Check.refused(x, "shapedBy 0, 5", x.shapedBy(0, 5), Check.NONE, 2);
        Check.refused(x, "shapedBy 0, -1", x.shapedBy(0, -1), Check.NONE, 2);
        FollyShire none = new FollyShire();
        Check.refused(none, "fits of none", none.fits(), Check.NONE, 1);
        Check.refused(none, "fitAt of none", none.fitAt(0, 0), Check.NONE, 1);
        Check.refused(none, "shapedBy of none", none.shapedBy(0, 0), Check.NONE, 1);
        Check.refused(none, "tryLetter of none", none.tryLetter(), Check.NONE, 1);
        Check.refused(none, "tryLeaves of none", none.tryLeaves(), Check.NONE, 1);
        Check.refused(none, "judge of none", none.judge(), Check.NONE, 1);
    }
}
