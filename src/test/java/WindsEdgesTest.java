/** The edges of WINDS and of promises 42 to 45, sentence by sentence. */
public final class WindsEdgesTest {
    public static void main(String[] args) {
        chances();
        shapes();
        odds();
        lostOdds();
        draws();
        seeds();
        blown();
        yeses();
        Check.end(42, 45);
    }

    /** An obelisk, which answers yes: the wind alone makes it no. */
    private static FollyShire obelisk(int wind) {
        return Check.made("shire wind " + wind + " rot 0;folly a obelisk sound 1");
    }

    private static FollyShire row(int wind, int count) {
        StringBuilder text = new StringBuilder("shire wind " + wind + " rot 0");
        for (int f = 0; f < count; f++) {
            text.append(";folly ").append((char) ('a' + f)).append(" tower sound 1");
        }
        for (int f = 1; f < count; f++) {
            text.append(";sends ").append((char) ('a' + f - 1)).append(' ').append((char) ('a' + f));
        }
        return Check.made(text.toString());
    }

    private static void due(FollyShire x, String what, int f, boolean answer, long upper, long lower) {
        Check.taken(x, what + ", the upper", x.odds(f, true, answer, false), upper);
        Check.taken(x, what + ", the lower", x.odds(f, true, answer, true), lower);
    }

    private static void chances() {
        Check.term("behind each ANSWER (of each folly of a COURSE), as likely as told, it is the other one.");
        due(obelisk(0), "wind 0: yes", 0, true, 1, 1);
        due(obelisk(0), "wind 0: no", 0, false, 0, 1);
        due(obelisk(1), "wind 1: no", 0, false, 1, 100);
        due(obelisk(99), "wind 99: yes", 0, true, 1, 100);
        due(obelisk(100), "wind 100: yes", 0, true, 0, 1);
        due(obelisk(100), "wind 100: no", 0, false, 1, 1);
        for (int count = 1; count <= 6; count++) {
            due(row(100, count), "wind 100 turns it " + count + " times", 0, true, count % 2 == 0 ? 1 : 0, 1);
            due(row(50, count), "wind 50 of " + count, 0, true, 1, 2);
        }
        due(row(1, 6), "six of them, wind 1", 0, true, 29466287201L, 31250000000L);
        due(row(99, 6), "six of them, wind 99", 0, true, 29466287201L, 31250000000L);
        due(row(1, 6), "the last of six alone", 5, true, 99, 100);
    }

    /** What a lone folly of this shape answers to yes and to no, by chance and by draws. */
    private static void shapes() {
        Check.promise(42, "How likely a letter is SIGNED with yes (or no, not answer) with WINDS");
        String[] lines = {"tower sound 1", "arch sound 1", "obelisk sound 1", "pyramid sound 1", "grotto sound 1;hermit a"};
        int[] toYes = {1, 0, 1, 1, 0};
        int[] toNo = {0, 1, 1, 0, 0};
        for (int i = 0; i < lines.length; i++) {
            FollyShire x = Check.made("shire wind 30 rot 0;folly a " + lines[i]);
            for (int say = 0; say <= 1; say++) {
                int answer = say == 1 ? toYes[i] : toNo[i];
                String what = lines[i] + " to " + say;
                Check.taken(x, what + ": yes", x.odds(0, say == 1, true, false), answer == 1 ? 7 : 3);
                Check.taken(x, what + ": no", x.odds(0, say == 1, false, false), answer == 1 ? 3 : 7);
                Check.taken(x, what + ": by", x.odds(0, say == 1, true, true), 10);
                Check.taken(x, what + ": lost", x.lostOdds(0, say == 1, false), 0);
                Check.taken(x, what + ": not turned by 74", x.blown(0, say == 1, 0), answer);
                Check.taken(x, what + ": turned by 12", x.blown(0, say == 1, 873), 1 - answer);
            }
        }
        FollyShire pair = Check.made("shire wind 30 rot 0;folly a arch sound 1;folly b arch sound 1;sends a b");
        Check.taken(pair, "two arches to no: no", pair.odds(0, false, false, false), 29);
        Check.taken(pair, "two arches to no: by", pair.odds(0, false, false, true), 50);
        FollyShire odd = Check.made("shire wind 30 rot 0;folly a pyramid sound 1");
        odd.year();
        Check.taken(odd, "a pyramid in an odd year", odd.odds(0, true, true, false), 3);
        Check.taken(odd, "a pyramid in an odd year, by 74", odd.blown(0, true, 0), 0);
    }

    private static void odds() {
        Check.promise(42, "the upper WHOLE or the lower, likewise.");
        due(obelisk(50), "one half", 0, true, 1, 2);
        due(obelisk(25), "a quarter", 0, false, 1, 4);
        due(obelisk(37), "no lower terms", 0, false, 37, 100);
        FollyShire lost = Check.made("shire wind 30 rot 0;folly a tower sound 0;folly b tower sound 1;sends b a");
        due(lost, "a ruin's yes is 0 by 1", 0, true, 0, 1);
        due(lost, "a ruin's no is 0 by 1", 0, false, 0, 1);
        due(lost, "sent to a ruin", 1, true, 0, 1);
        Check.taken(lost, "put in with no", lost.odds(0, false, false, false), 0);
        Check.taken(lost, "put in with no, by", lost.odds(0, false, false, true), 1);
        Check.promise(42, "-1: 1.");
        FollyShire x = row(30, 6);
        Check.within(x, "odds", 0, 5, 1, -1, f -> x.odds(f, true, true, false));
        Check.within(x, "odds, the lower", 0, 5, 1, -1, f -> x.odds(f, false, false, true));
        Check.needsShire("odds", -1, none -> none.odds(0, true, true, true));
    }

    private static void lostOdds() {
        Check.promise(43, "How likely it is LOST then, likewise.");
        FollyShire x = Check.made("shire wind 30 rot 0;folly a tower sound 0;folly b tower sound 1;folly c tower sound 1;sends b a");
        int[] due = {1, 1, 0};
        for (int f = 0; f < 3; f++) {
            Check.taken(x, "the upper of " + f, x.lostOdds(f, true, false), due[f]);
            Check.taken(x, "the lower of " + f, x.lostOdds(f, true, true), 1);
            Check.taken(x, "the upper of " + f + " with no", x.lostOdds(f, false, false), due[f]);
            Check.taken(x, "the lower of " + f + " with no", x.lostOdds(f, false, true), 1);
        }
        FollyShire round = Check.made("shire wind 100 rot 0;folly a tower sound 1;folly b tower sound 1;sends b a;sends a b");
        Check.taken(round, "in a round", round.lostOdds(0, true, false), 1);
        FollyShire six = row(1, 6);
        Check.taken(six, "of six never", six.lostOdds(0, true, false), 0);
        Check.taken(six, "of six, 0 by 1", six.lostOdds(0, true, true), 1);
        Check.promise(43, "-1: 1.");
        Check.within(six, "lostOdds", 0, 5, 1, -1, f -> six.lostOdds(f, true, true));
        Check.needsShire("lostOdds", -1, none -> none.lostOdds(0, true, true));
    }

    private static void draws() {
        Check.term("a DRAW mod 100 behind each: below wind it is the other one");
        // Seeds that become 0, 1, 99, 100, 101, 65,499, 65,500.
        int[] seeds = {45438, 25340, 21846, 1748, 47187, 22718, 2620};
        int[] draws = {0, 1, 99, 0, 1, 99, 0};
        for (int i = 0; i < seeds.length; i++) {
            Check.due("a draw of " + draws[i] + " is not below it", obelisk(draws[i]).blown(0, true, seeds[i]), 1);
            Check.due("a draw of " + draws[i] + " is below one more", obelisk(draws[i] + 1).blown(0, true, seeds[i]), 0);
            Check.due("never by wind 0", obelisk(0).blown(0, true, seeds[i]), 1);
            Check.due("always by wind 100", obelisk(100).blown(0, true, seeds[i]), 0);
        }
    }

    private static void seeds() {
        Check.term("(SEED becomes (75 times SEED and 74) mod 65,537)");
        int[] seeds = {0, 1, 872, 873, 874, 20097, 65535, 65536};
        int[] become = {74, 149, 65474, 12, 87, 65535, 65461, 65536};
        for (int i = 0; i < seeds.length; i++) {
            int draw = become[i] % 100;
            Check.due("from " + seeds[i] + ", not below", obelisk(draw).blown(0, true, seeds[i]), 1);
            Check.due("from " + seeds[i] + ", below", obelisk(draw + 1).blown(0, true, seeds[i]), 0);
            // Two letters, the second by what comes behind.
            int next = (75 * become[i] + 74) % 65537 % 100;
            int first = draw < 40 ? 0 : 1;
            Check.due("from " + seeds[i] + ", two", obelisk(40).yeses(0, true, seeds[i], 2), first + (next < 40 ? 0 : 1));
        }
    }

    private static void blown() {
        Check.promise(44, "With what a letter is SIGNED by a SEED (0 .. 65,536); -2.");
        FollyShire x = row(30, 6);
        for (int seed : new int[] {0, 873, 65536}) {
            int say = 1;
            int left = seed;
            for (int f = 0; f < 6; f++) {
                left = (75 * left + 74) % 65537;
                say = left % 100 < 30 ? 1 - say : say;
            }
            Check.taken(x, "six draws from " + seed, x.blown(0, true, seed), say);
            Check.taken(x, "the other one from " + seed, x.blown(0, false, seed), 1 - say);
        }
        FollyShire lost = Check.made("shire wind 100 rot 0;folly a grotto sound 1;folly b tower sound 1;sends b a");
        Check.taken(lost, "a grotto", lost.blown(0, true, 0), -2);
        Check.taken(lost, "sent to a grotto", lost.blown(1, true, 65536), -2);
        Check.promise(44, "NONE: 1; 2.");
        Check.within(x, "seed", 0, 65536, 2, seed -> x.blown(0, true, seed));
        Check.within(x, "folly", 0, 5, 1, f -> x.blown(f, true, 0));
        Check.refused(x, "neither folly nor seed", x.blown(6, true, 65537), Check.NONE, 1);
        Check.needsShire("blown", Check.NONE, none -> none.blown(0, true, 65537));
    }

    private static void yeses() {
        Check.promise(45, "How many of n letters (0 .. 60), one behind the other by a SEED, are SIGNED with yes.");
        FollyShire x = row(30, 2);
        for (int seed : new int[] {0, 873, 65535, 65536}) {
            int left = seed;
            int count = 0;
            Check.taken(x, "none of none from " + seed, x.yeses(0, true, seed, 0), 0);
            for (int n = 1; n <= 60; n++) {
                int say = 1;
                for (int f = 0; f < 2; f++) {
                    left = (75 * left + 74) % 65537;
                    say = left % 100 < 30 ? 1 - say : say;
                }
                count += say;
                if (n == 1 || n == 2 || n >= 59) {
                    Check.taken(x, n + " from " + seed, x.yeses(0, true, seed, n), count);
                }
            }
        }
        Check.taken(x, "each call begins by its own seed", x.yeses(0, true, 0, 60), x.yeses(0, true, 0, 60));
        FollyShire lost = Check.made("shire wind 100 rot 0;folly a grotto sound 1");
        Check.taken(lost, "sixty that are lost", lost.yeses(0, true, 0, 60), 0);
        Check.promise(45, "NONE: 1; 2.");
        Check.within(x, "n", 0, 60, 2, n -> x.yeses(0, true, 0, n));
        Check.within(x, "seed", 0, 65536, 2, seed -> x.yeses(0, true, seed, 0));
        Check.within(x, "folly", 0, 1, 1, f -> x.yeses(f, true, 0, 0));
        Check.refused(x, "none of the three", x.yeses(2, true, 65537, 61), Check.NONE, 1);
        Check.refused(x, "neither seed nor n", x.yeses(0, true, -1, -1), Check.NONE, 2);
        Check.needsShire("yeses", Check.NONE, none -> none.yeses(0, true, 65537, 61));
    }
}
