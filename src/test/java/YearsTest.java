/** Promises 23 to 30: letters in years to come, the plan of mending, the fewest to keep, the pillar. */
public final class YearsTest {
    private static final String SHIRE = "shire wind 0 rot 2;folly a pyramid sound 5;folly b tower sound 4;"
        + "folly c tower sound 9;folly d obelisk sound 0;sends a b;estate p b debt 1;estate q c debt 1;estate r d debt 1";

    public static void main(String[] args) {
        ahead();
        plans();
        kept();
        wrongNumbers();
        Check.end();
    }

    private static void ahead() {
        FollyShire x = Check.made(SHIRE);
        Check.due("a yes in 0", x.signsIn(0, true, 0), 1);
        Check.due("a yes in 1: a pyramid turns it", x.signsIn(0, true, 1), 0);
        Check.due("a no in 1", x.signsIn(0, false, 1), 1);
        Check.due("a yes in 2: b is a ruin", x.signsIn(0, true, 2), -2);
        Check.due("c yes in 4", x.signsIn(2, true, 4), 1);
        Check.due("c yes in 5", x.signsIn(2, true, 5), -2);
        Check.due("c yes in 60", x.signsIn(2, true, 60), -2);
        int[] due = {3, 3, 2, 2, 2, 0, 0};
        for (int n = 0; n < due.length; n++) {
            Check.due("served in " + n, x.servedIn(n), due[n]);
        }
        Check.due("served in 60", x.servedIn(60), 0);
        Check.due("p first", x.firstServed(0), 0);
        Check.due("p last", x.lastServed(0), 1);
        Check.due("q last", x.lastServed(1), 4);
        Check.due("r first", x.firstServed(2), -2);
        Check.due("r last", x.lastServed(2), -2);
        Check.due("it is year 0 still", x.size(8), 0);
        x.year();
        Check.due("a yes in 0 from year 1", x.signsIn(0, true, 0), 0);
        Check.due("p last from year 1", x.lastServed(0), 0);
        x.year();
        Check.due("p first from year 2", x.firstServed(0), -2);
        FollyShire still = Check.made("shire wind 0 rot 0;folly a pyramid sound 1;estate p a debt 0");
        Check.due("without rot to the last", still.lastServed(0), 60);
        Check.due("in 60 years", still.signsIn(0, true, 60), 1);
        Check.due("in 59 years", still.signsIn(0, true, 59), 0);
    }

    private static void plans() {
        FollyShire x = Check.made(SHIRE);
        plan(x, "none needed", 1, 0, 2);
        plan(x, "b in the second year", 2, 2, 2);
        plan(x, "b in the third", 3, 2, 2);
        plan(x, "b in the fourth", 4, 2, 2);
        x.year();
        x.year();
        x.year();
        plan(x, "b", 1, 2, 2);
        plan(x, "c, then b", 2, 32, 2);
        plan(x, "none, c, b", 3, 32, 2);
        plan(x, "none, none, c, b", 4, 32, 2);
        x.year();
        plan(x, "c stands for a year less than it would need", 1, 2, 1);
        plan(x, "c, then b, from year 4", 2, 32, 2);
        Check.due("nothing is mended", x.folly(1, 1), 0);
        Check.due("the year stays", x.size(8), 4);
        FollyShire first = Check.made("shire wind 0 rot 1;folly a tower sound 1;folly b tower sound 2;folly c tower sound 2;"
            + "estate p b debt 1;estate q c debt 1");
        first.year();
        first.year();
        plan(first, "of like ones the first", 1, 2, 1);
        plan(first, "a is a ruin behind each year; b and c last one", 2, 2, 1);
        FollyShire lasting = Check.made("shire wind 0 rot 1;folly a tower sound 4;folly b tower sound 3;folly c tower sound 2;"
            + "estate p c debt 1;estate q b debt 1;estate r a debt 1");
        for (int i = 0; i < 4; i++) {
            lasting.year();
        }
        plan(lasting, "a, b, c one behind the other", 3, 123, 3);
        plan(lasting, "none first", 4, 123, 3);
        plan(lasting, "a, then b", 2, 12, 2);
    }

    private static void plan(FollyShire x, String what, int n, int row, int serves) {
        Check.due(what + ": plan " + n, x.plan(n), row);
        Check.due(what + ": planServes " + n, x.planServes(n), serves);
        Check.due(what + ": trouble", x.trouble(), 0);
    }

    private static void kept() {
        FollyShire x = Check.made(SHIRE);
        Check.due("b and c", x.keep(), 6);
        Check.due("b, the first of two", x.pillar(), 1);
        x.year();
        x.year();
        Check.due("c alone", x.keep(), 4);
        Check.due("c", x.pillar(), 2);
        FollyShire y = Check.made("shire wind 0 rot 0;folly a tower sound 1;folly b tower sound 1;folly c tower sound 1;"
            + "estate p a debt 1;estate q c debt 1;estate r c debt 1");
        Check.due("a and c", y.keep(), 5);
        Check.due("c has two", y.pillar(), 2);
        y.hire(0);
        y.hire(2);
        Check.due("none served, none kept", y.keep(), 0);
        Check.due("the first", y.pillar(), 0);
        FollyShire all = Check.made("shire wind 0 rot 0;folly a tower sound 1;estate p a debt 1");
        Check.due("all kept", all.keep(), 1);
        Check.due("its only one", all.pillar(), 0);
    }

    private static void wrongNumbers() {
        FollyShire x = Check.made(SHIRE);
        for (int n : new int[] {-1, 61, Integer.MAX_VALUE, Integer.MIN_VALUE}) {
            Check.refused(x, "signsIn " + n, x.signsIn(0, true, n), Check.NONE, 2);
            Check.refused(x, "signsIn of no folly, " + n, x.signsIn(4, true, n), Check.NONE, 1);
            Check.refused(x, "servedIn " + n, x.servedIn(n), Check.NONE, 2);
            Check.refused(x, "plan " + n, x.plan(n), Check.NONE, 2);
            Check.refused(x, "planServes " + n, x.planServes(n), Check.NONE, 2);
        }
        for (int n : new int[] {0, 5}) {
            Check.refused(x, "plan " + n, x.plan(n), Check.NONE, 2);
            Check.refused(x, "planServes " + n, x.planServes(n), Check.NONE, 2);
        }
        for (int e : new int[] {-1, 3}) {
            Check.refused(x, "signsIn of folly " + (e + 1), x.signsIn(e == -1 ? -1 : 4, true, 0), Check.NONE, 1);
            Check.refused(x, "firstServed " + e, x.firstServed(e), Check.NONE, 1);
            Check.refused(x, "lastServed " + e, x.lastServed(e), Check.NONE, 1);
        }
        FollyShire none = new FollyShire();
        Check.refused(none, "keep of none", none.keep(), Check.NONE, 1);
        Check.refused(none, "pillar of none", none.pillar(), Check.NONE, 1);
        Check.refused(none, "plan of none", none.plan(1), Check.NONE, 1);
        Check.refused(none, "planServes of none", none.planServes(1), Check.NONE, 1);
        Check.refused(none, "servedIn of none", none.servedIn(0), Check.NONE, 1);
    }
}
