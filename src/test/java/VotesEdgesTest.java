/** The edges of VOTES, of AGENT and HERMIT, and of promises 37 to 41, sentence by sentence. */
public final class VotesEdgesTest {
    public static void main(String[] args) {
        power();
        rule();
        sues();
        rests();
        rest();
        Check.end(37, 41);
    }

    private static FollyShire owing(int... debts) {
        StringBuilder text = new StringBuilder("shire wind 0 rot 0;folly f tower sound 1");
        for (int i = 0; i < debts.length; i++) {
            text.append(";estate ").append((char) ('p' + i)).append(" f debt ").append(debts[i]);
        }
        return Check.made(text.toString());
    }

    private static void due(FollyShire x, String what, int e, long upper, long lower) {
        Check.taken(x, what + ", of " + e + " the upper", x.power(e, false), upper);
        Check.taken(x, what + ", of " + e + " the lower", x.power(e, true), lower);
    }

    private static void power() {
        Check.term("how many have no more than half of all VOTES, but have more with it: by how many sets there are.");
        FollyShire half = owing(50, 50);
        due(half, "just half is no more", 0, 1, 2);
        due(half, "just half is no more", 1, 1, 2);
        FollyShire more = owing(50, 51);
        due(more, "one vote more than half", 1, 1, 1);
        due(more, "one vote less than half", 0, 0, 1);
        due(owing(2, 1, 1), "2 of 4 is no more", 0, 3, 4);
        due(owing(2, 1, 1), "by 2 of 4 with one more", 1, 1, 4);
        due(owing(99, 99, 99, 99, 99), "five with most votes", 0, 3, 8);
        due(owing(99, 1, 1, 1, 1), "all of sixteen sets", 0, 1, 1);
        due(owing(3, 1, 1, 1, 1), "fourteen of sixteen sets", 0, 7, 8);
        due(owing(3, 1, 1, 1, 1), "two of sixteen sets", 4, 1, 8);
        Check.promise(37, "POWER, the upper WHOLE or the lower, in lowest terms (0 by 1).");
        due(owing(0), "of one without votes", 0, 0, 1);
        due(owing(1), "of one with one", 0, 1, 1);
        due(owing(99), "of one with most", 0, 1, 1);
        due(owing(0, 0, 0, 0, 0), "where none has any", 4, 0, 1);
        due(owing(1, 0, 0, 0, 0), "where one has", 0, 1, 1);
        due(owing(1, 0, 0, 0, 0), "where another one has", 4, 0, 1);
        Check.promise(37, "-1: 1.");
        FollyShire x = owing(1, 2, 3, 4, 5);
        Check.within(x, "the upper of", 0, 4, 1, -1, e -> x.power(e, false));
        Check.within(x, "the lower of", 0, 4, 1, -1, e -> x.power(e, true));
        Check.needsShire("power", -1, none -> none.power(0, true));
        FollyShire without = owing();
        Check.refused(without, "no estates", without.power(0, false), -1, 1);
    }

    private static void rule() {
        Check.promise(38, "The fewest estates that have more than half of all VOTES, as bits (of like ones the least); -2 none has any.");
        int[][] debts = {{}, {0}, {0, 0, 0, 0, 0}, {1}, {0, 0, 0, 0, 1}, {50, 50}, {50, 51}, {51, 50}, {1, 1, 1, 1, 1},
            {99, 99, 99, 99, 99}, {2, 2, 2, 2, 0}, {0, 2, 2, 2, 2}, {4, 1, 1, 1, 1}, {5, 1, 1, 1, 1}, {1, 1, 1, 1, 5}, {1, 1, 1, 1, 4}};
        int[] due = {-2, -2, -2, 1, 16, 3, 2, 1, 7, 7, 7, 14, 3, 1, 16, 17};
        for (int i = 0; i < debts.length; i++) {
            FollyShire x = owing(debts[i]);
            Check.taken(x, "by debts " + java.util.Arrays.toString(debts[i]), x.rule(), due[i]);
        }
        Check.promise(38, "NONE: 1 (no SHIRE).");
        Check.needsShire("rule", Check.NONE, FollyShire::rule);
    }

    private static void sues() {
        Check.term("both wait: 2 each; who speaks alone has 3, the other one loses eye; both speak: 1 each less eye.");
        FollyShire x = owing();
        for (int eye = 0; eye <= 9; eye++) {
            suit(x, eye, false, false, 2, 2);
            suit(x, eye, true, false, 3, -eye);
            suit(x, eye, false, true, -eye, 3);
            suit(x, eye, true, true, 1 - eye, 1 - eye);
        }
        Check.promise(39, "and eye is so much (0 .. 9). -100: 1 (no SHIRE); 2.");
        for (int pair = 0; pair < 8; pair++) {
            boolean agent = (pair & 4) != 0;
            boolean hermit = (pair & 2) != 0;
            boolean ofHermit = (pair & 1) != 0;
            Check.within(x, "eye", 0, 9, 2, -100, eye -> x.sues(eye, agent, hermit, ofHermit));
        }
        Check.needsShire("sues", -100, none -> none.sues(10, true, true, true));
    }

    private static void suit(FollyShire x, int eye, boolean agent, boolean hermit, int toAgent, int toHermit) {
        String what = "eye " + eye + ", agent " + agent + ", hermit " + hermit;
        Check.taken(x, what + ": the agent", x.sues(eye, agent, hermit, false), toAgent);
        Check.taken(x, what + ": the hermit", x.sues(eye, agent, hermit, true), toHermit);
    }

    private static void rests() {
        Check.term("REST: a pair by which neither could have more alone.");
        FollyShire x = owing();
        for (int eye = 0; eye <= 9; eye++) {
            int count = 0;
            for (int pair = 0; pair < 4; pair++) {
                boolean agent = pair >= 2;
                boolean hermit = pair % 2 == 1;
                boolean rests = x.sues(eye, agent, hermit, false) >= x.sues(eye, !agent, hermit, false)
                    && x.sues(eye, agent, hermit, true) >= x.sues(eye, agent, !hermit, true);
                count += rests ? 1 : 0;
            }
            Check.taken(x, "rests by " + eye, x.rests(eye), count);
        }
        Check.promise(40, "How many RESTS.");
        Check.due("by the least eye", x.rests(0), 1);
        Check.due("by the greatest eye", x.rests(9), 1);
        Check.promise(40, "NONE: 1 (no SHIRE); 2.");
        Check.within(x, "rests", 0, 9, 2, x::rests);
        Check.needsShire("rests", Check.NONE, none -> none.rests(10));
    }

    private static void rest() {
        Check.promise(41, "10 if the agent speaks, and 1 if the hermit does; -2.");
        FollyShire x = owing();
        for (int eye = 0; eye <= 9; eye++) {
            Check.taken(x, "both speak by " + eye, x.rest(eye), 11);
        }
        Check.promise(41, "NONE: likewise.");
        Check.within(x, "rest", 0, 9, 2, x::rest);
        Check.needsShire("rest", Check.NONE, none -> none.rest(10));
    }
}
