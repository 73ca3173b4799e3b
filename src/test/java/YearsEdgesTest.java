/** The edges of PLAN and KEEP and of promises 23 to 30, sentence by sentence. */
public final class YearsEdgesTest {
    private static final String LONE = "shire wind 0 rot 0;folly a tower sound 1";
    /** Six follies, five estates, the first folly's none; each sound for as many years as its place tells. */
    private static final String SIX = "shire wind 0 rot 1;folly a tower sound 1;folly b tower sound 2;folly c tower sound 3;"
        + "folly d tower sound 4;folly e tower sound 5;folly f tower sound 6;estate p b debt 0;estate q c debt 0;"
        + "estate r d debt 0;estate s e debt 0;estate t f debt 0";

    public static void main(String[] args) {
        behindYears();
        signsIn();
        servedIn();
        firstServed();
        lastServed();
        planYears();
        planTies();
        planServes();
        keep();
        pillar();
        Check.end(23, 30);
    }

    private static FollyShire lone(int rot, String shape, int sound) {
        return Check.made("shire wind 0 rot " + rot + ";folly a " + shape + " sound " + sound + ";estate p a debt 0");
    }

    private static void behindYears() {
        Check.term("In n YEARS: as behind n YEARS, nothing else being done.");
        String text = SIX.replace("rot 1", "rot 2").replace("a tower", "a pyramid").replace("f tower sound 6", "f tower sound 99")
            + ";sends a f;hermit e";
        FollyShire ahead = Check.made(text);
        FollyShire gone = Check.made(text);
        for (int n = 0; n <= 60; n++) {
            Check.due("a yes in " + n, ahead.signsIn(0, true, n), gone.signs(0, true));
            Check.due("f no in " + n, ahead.signsIn(5, false, n), gone.signs(5, false));
            Check.due("served in " + n, ahead.servedIn(n), gone.served());
            gone.year();
        }
        Check.due("nothing was done", ahead.size(8) + ahead.size(9), 0);
    }

    private static void signsIn() {
        Check.promise(23, "With what a letter is SIGNED in n YEARS (0 .. 60); -2.");
        FollyShire pyramid = lone(0, "pyramid", 1);
        for (int n : new int[] {0, 1, 59, 60}) {
            Check.taken(pyramid, "yes to a pyramid in " + n, pyramid.signsIn(0, true, n), 1 - n % 2);
            Check.taken(pyramid, "no to a pyramid in " + n, pyramid.signsIn(0, false, n), n % 2);
        }
        pyramid.year();
        Check.taken(pyramid, "from an odd year in 60", pyramid.signsIn(0, true, 60), 0);
        FollyShire rots = lone(1, "tower", 60);
        Check.taken(rots, "sound in 59", rots.signsIn(0, true, 59), 1);
        Check.taken(rots, "a ruin in 60", rots.signsIn(0, true, 60), -2);
        FollyShire lasts = lone(1, "tower", 61);
        Check.taken(lasts, "sound in 60", lasts.signsIn(0, true, 60), 1);
        FollyShire fast = lone(9, "tower", 99);
        Check.taken(fast, "in 10 by a rot of 9", fast.signsIn(0, true, 10), 1);
        Check.taken(fast, "in 11 by a rot of 9", fast.signsIn(0, true, 11), -2);
        Check.taken(fast, "in 60 by a rot of 9", fast.signsIn(0, true, 60), -2);
        Check.due("nothing is done", fast.folly(0, 1) + fast.size(8) + fast.size(9), 99);
        Check.promise(23, "NONE: 1; 2.");
        Check.within(fast, "n", 0, 60, 2, n -> fast.signsIn(0, true, n));
        Check.within(fast, "folly", 0, 0, 1, f -> fast.signsIn(f, true, 0));
        Check.refused(fast, "neither folly nor n", fast.signsIn(1, true, 61), Check.NONE, 1);
        Check.needsShire("signsIn", Check.NONE, none -> none.signsIn(0, true, 61));
    }

    private static void servedIn() {
        Check.promise(24, "Estates SERVED in n YEARS (0 .. 60), as bits.");
        FollyShire x = Check.made(SIX);
        int[] due = {31, 31, 30, 28, 24, 16, 0};
        for (int n = 0; n < due.length; n++) {
            Check.taken(x, "in " + n, x.servedIn(n), due[n]);
        }
        FollyShire lasts = lone(1, "tower", 61);
        Check.taken(lasts, "in 60", lasts.servedIn(60), 1);
        lasts.year();
        Check.taken(lasts, "in 60 from year 1", lasts.servedIn(60), 0);
        Check.taken(lasts, "in 59 from year 1", lasts.servedIn(59), 1);
        FollyShire without = Check.made(LONE);
        Check.taken(without, "no estates", without.servedIn(60), 0);
        Check.promise(24, "NONE: 1 (no SHIRE); 2.");
        Check.within(x, "n", 0, 60, 2, x::servedIn);
        Check.needsShire("servedIn", Check.NONE, none -> none.servedIn(61));
    }

    private static void firstServed() {
        Check.promise(25, "In how many YEARS (0 .. 60) an estate is SERVED first; -2.");
        FollyShire now = lone(9, "pyramid", 1);
        Check.taken(now, "now", now.firstServed(0), 0);
        now.year();
        Check.taken(now, "behind its ruin", now.firstServed(0), -2);
        FollyShire odd = lone(0, "pyramid", 1);
        odd.year();
        Check.taken(odd, "a pyramid in an odd year", odd.firstServed(0), 0);
        FollyShire never = lone(0, "grotto", 99);
        Check.taken(never, "never", never.firstServed(0), -2);
        Check.promise(25, "NONE: 1.");
        FollyShire x = Check.made(SIX);
        Check.within(x, "firstServed", 0, 4, 1, x::firstServed);
        Check.needsShire("firstServed", Check.NONE, none -> none.firstServed(0));
        FollyShire without = Check.made(LONE);
        Check.refused(without, "no estates", without.firstServed(0), Check.NONE, 1);
    }

    private static void lastServed() {
        Check.promise(26, "In how many it is last; -2 never.");
        int[][] due = {{1, 0, -2}, {1, 1, 0}, {1, 2, 1}, {1, 59, 58}, {1, 60, 59}, {1, 61, 60}, {1, 62, 60}, {1, 99, 60},
            {0, 1, 60}, {0, 0, -2}, {9, 9, 0}, {9, 10, 1}, {9, 99, 10}};
        for (int[] each : due) {
            FollyShire x = lone(each[0], "tower", each[1]);
            Check.taken(x, "rot " + each[0] + ", sound " + each[1], x.lastServed(0), each[2]);
        }
        FollyShire never = lone(0, "tower", 9);
        never.hire(0);
        Check.taken(never, "by a hermit", never.lastServed(0), -2);
        FollyShire later = lone(1, "tower", 5);
        later.year();
        Check.taken(later, "from year 1", later.lastServed(0), 3);
        Check.promise(26, "NONE: 1.");
        FollyShire x = Check.made(SIX);
        Check.within(x, "lastServed", 0, 4, 1, x::lastServed);
        Check.needsShire("lastServed", Check.NONE, none -> none.lastServed(0));
        FollyShire without = Check.made(LONE);
        Check.refused(without, "no estates", without.lastServed(0), Check.NONE, 1);
    }

    private static void planYears() {
        Check.term("PLAN for n years (1 .. 4)");
        FollyShire x = Check.made(SIX);
        for (int i = 0; i < 6; i++) {
            x.year();
        }
        Check.due("all are ruins", x.served(), 0);
        Check.taken(x, "in one year one of b to f, the first", x.plan(1), 2);
        Check.taken(x, "in two years c, then b", x.plan(2), 32);
        Check.taken(x, "in three years d, c, b", x.plan(3), 432);
        Check.taken(x, "in four years e, d, c, b", x.plan(4), 5432);
        Check.promise(27, "NONE: 1 (no SHIRE); 2.");
        Check.within(x, "plan", 1, 4, 2, x::plan);
        Check.refused(x, "plan 0", x.plan(0), Check.NONE, 2);
        Check.refused(x, "plan 5", x.plan(5), Check.NONE, 2);
        Check.needsShire("plan", Check.NONE, none -> none.plan(5));
        Check.promise(28, "NONE: 1 (no SHIRE); 2.");
        Check.within(x, "planServes", 1, 4, 2, x::planServes);
        Check.refused(x, "planServes 0", x.planServes(0), Check.NONE, 2);
        Check.refused(x, "planServes 5", x.planServes(5), Check.NONE, 2);
        Check.needsShire("planServes", Check.NONE, none -> none.planServes(0));
    }

    private static void planTies() {
        Check.term("each year, ahead of the YEAR, a folly is MENDED (sound as told), or none");
        FollyShire one = Check.made("shire wind 0 rot 3;folly a tower sound 3;folly b tower sound 4;estate p a debt 0;estate q b debt 0");
        one.year();
        one.year();
        Check.taken(one, "a is a ruin behind the year again, b isn't", one.plan(1), 2);
        FollyShire two = Check.made("shire wind 0 rot 3;folly a tower sound 6;folly b tower sound 7;estate p a debt 0;estate q b debt 0");
        two.year();
        two.year();
        two.year();
        Check.taken(two, "b first, as it stands for two years, then a", two.plan(2), 21);
        Check.taken(two, "behind both", two.planServes(2), 2);
        Check.term("of like ones the first, year by year (none ahead of all, then by numbers).");
        FollyShire still = lone(0, "tower", 9);
        for (int n = 1; n <= 4; n++) {
            Check.taken(still, "none is needed in " + n, still.plan(n), 0);
        }
        FollyShire last = Check.made(SIX.replace("estate p b", "estate p f").replace("estate q c", "estate q f")
            .replace("estate r d", "estate r f").replace("estate s e", "estate s f"));
        for (int i = 0; i < 6; i++) {
            last.year();
        }
        for (int n = 1; n <= 4; n++) {
            Check.taken(last, "none till the last year, then the last folly, in " + n, last.plan(n), 6);
            Check.taken(last, "behind it in " + n, last.planServes(n), 5);
        }
        FollyShire same = Check.made("shire wind 0 rot 1;folly a tower sound 9;folly b tower sound 9;estate p a debt 0;estate q b debt 0");
        for (int i = 0; i < 9; i++) {
            same.year();
        }
        Check.taken(same, "the first of two", same.plan(1), 1);
        Check.taken(same, "the first, then the second", same.plan(2), 12);
        Check.taken(same, "none, the first, the second", same.plan(3), 12);
        Check.taken(same, "none, none, the first, the second", same.plan(4), 12);
        Check.promise(27, "PLAN, as digits, one for each year (0 none, else the folly and 1).");
        FollyShire middle = Check.made("shire wind 0 rot 1;folly a tower sound 1;folly b tower sound 4;estate p b debt 0");
        Check.taken(middle, "none in each of three", middle.plan(3), 0);
        Check.taken(middle, "b in the fourth", middle.plan(4), 2);
        FollyShire without = Check.made(LONE);
        Check.taken(without, "no estates", without.plan(4), 0);
        FollyShire hermit = lone(1, "tower", 1);
        hermit.hire(0);
        Check.taken(hermit, "a hermit's is served by no plan", hermit.plan(4), 0);
        Check.due("nothing is done", hermit.size(9) + hermit.size(8), 1);
    }

    private static void planServes() {
        Check.promise(28, "How many estates can be SERVED behind it.");
        FollyShire x = Check.made(SIX);
        for (int i = 0; i < 6; i++) {
            x.year();
        }
        for (int n = 1; n <= 4; n++) {
            Check.taken(x, "in " + n, x.planServes(n), n);
        }
        FollyShire all = Check.made(SIX);
        Check.taken(all, "all five behind a year", all.planServes(1), 5);
        Check.taken(all, "all five behind two, b mended", all.planServes(2), 5);
        FollyShire sound = Check.made(SIX.replace("rot 1", "rot 0"));
        Check.taken(sound, "all five, six follies being sound", sound.planServes(4), 5);
        Check.taken(sound, "none is mended then", sound.plan(4), 0);
        FollyShire without = Check.made(LONE);
        Check.taken(without, "no estates", without.planServes(4), 0);
        FollyShire ruin = lone(9, "tower", 9);
        Check.taken(ruin, "none: mended, it is a ruin behind the year again", ruin.planServes(1), 0);
        FollyShire more = lone(9, "tower", 10);
        Check.taken(more, "mended, it is sound behind one year", more.planServes(4), 1);
    }

    private static void keep() {
        Check.term("KEEP: the fewest follies by which, all others being RUINS, all estates are SERVED by some letter that are NOW: "
            + "of like ones the least bits.");
        FollyShire x = Check.made(SIX);
        Check.taken(x, "all but the first", x.keep(), 62);
        x.year();
        x.year();
        Check.taken(x, "b is a ruin NOW", x.keep(), 60);
        for (int i = 0; i < 3; i++) {
            x.year();
        }
        Check.taken(x, "the last alone", x.keep(), 32);
        x.year();
        Check.taken(x, "none is served", x.keep(), 0);
        Check.promise(29, "KEEP, as bits.");
        FollyShire without = Check.made(LONE);
        Check.taken(without, "no estates", without.keep(), 0);
        FollyShire one = lone(0, "obelisk", 1);
        Check.taken(one, "the only one", one.keep(), 1);
        FollyShire row = Check.made("shire wind 0 rot 0;folly a tower sound 1;folly b tower sound 1;sends a b;estate p b debt 0;"
            + "estate q a debt 0");
        Check.taken(row, "b alone, as q isn't NOW", row.keep(), 2);
        Check.due("nothing is done", row.folly(0, 1), 1);
        FollyShire ruin = Check.made("shire wind 0 rot 0;folly a tower sound 0;folly b tower sound 1;folly c tower sound 1;"
            + "estate p c debt 0");
        Check.taken(ruin, "neither a ruin nor b", ruin.keep(), 4);
        Check.promise(29, "NONE: 1 (no SHIRE).");
        Check.needsShire("keep", Check.NONE, FollyShire::keep);
    }

    private static void pillar() {
        Check.promise(30, "The folly without which (as a RUIN) fewest estates are SERVED, the first such.");
        FollyShire x = Check.made(SIX);
        Check.taken(x, "of five by one each the first", x.pillar(), 1);
        FollyShire last = Check.made(SIX.replace("estate p b", "estate p f"));
        Check.taken(last, "the last has two", last.pillar(), 5);
        FollyShire without = Check.made(LONE);
        Check.taken(without, "no estates: the first", without.pillar(), 0);
        FollyShire ruin = Check.made("shire wind 0 rot 0;folly a tower sound 1;folly b tower sound 0;estate p b debt 0");
        Check.taken(ruin, "none is served: the first", ruin.pillar(), 0);
        FollyShire all = Check.made("shire wind 0 rot 0;folly a tower sound 1;folly b tower sound 1;estate p b debt 0;"
            + "estate q b debt 0;estate r b debt 0;estate s b debt 0;estate t b debt 0");
        Check.taken(all, "all five by the second", all.pillar(), 1);
        Check.due("nothing is done", all.folly(1, 1), 1);
        Check.promise(30, "NONE: 1 (no SHIRE).");
        Check.needsShire("pillar", Check.NONE, FollyShire::pillar);
    }
}
