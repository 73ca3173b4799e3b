/** Promises 37 to 41: votes by debts; an agent and a hermit, their rests. */
public final class VotesTest {
    public static void main(String[] args) {
        power();
        rule();
        suits();
        wrongNumbers();
        Check.end();
    }

    private static FollyShire owing(int... debts) {
        StringBuilder text = new StringBuilder("shire wind 0 rot 0;folly f tower sound 1");
        for (int i = 0; i < debts.length; i++) {
            text.append(";estate ").append((char) ('p' + i)).append(" f debt ").append(debts[i]);
        }
        return Check.made(text.toString());
    }

    private static void power(FollyShire x, int e, long upper, long lower) {
        Check.due("power of " + e + ", upper", x.power(e, false), upper);
        Check.due("power of " + e + ", lower", x.power(e, true), lower);
        Check.due("power of " + e + ", trouble", x.trouble(), 0);
    }

    private static void power() {
        FollyShire x = owing(40, 10, 30);
        power(x, 0, 3, 4);
        power(x, 1, 1, 4);
        power(x, 2, 1, 4);
        power(owing(1, 1, 1), 0, 1, 2);
        power(owing(5), 0, 1, 1);
        power(owing(0), 0, 0, 1);
        power(owing(0, 0, 0), 1, 0, 1);
        power(owing(9, 0, 3), 1, 0, 1);
        power(owing(9, 0, 3), 0, 1, 1);
        power(owing(1, 1), 0, 1, 2);
        power(owing(1, 1, 1, 1, 1), 4, 3, 8);
        power(owing(99, 99, 99, 99, 1), 4, 3, 8);
    }

    private static void rule() {
        Check.due("40 is not more than half", owing(40, 10, 30).rule(), 3);
        Check.due("one alone", owing(1, 10, 99).rule(), 4);
        Check.due("of like ones the least bits", owing(0, 2, 2, 2).rule(), 6);
        Check.due("three of five", owing(1, 1, 1, 1, 1).rule(), 7);
        Check.due("both", owing(7, 7).rule(), 3);
        Check.due("fewest ahead of least", owing(3, 3, 9, 20, 9).rule(), 9);
        Check.due("none owes", owing(0, 0).rule(), -2);
        Check.due("none at all", owing().rule(), -2);
    }

    private static void suits() {
        FollyShire x = owing();
        for (int eye = 0; eye <= 9; eye++) {
            suit(x, eye, false, false, 2, 2);
            suit(x, eye, true, false, 3, -eye);
            suit(x, eye, false, true, -eye, 3);
            suit(x, eye, true, true, 1 - eye, 1 - eye);
            Check.due("rests by " + eye, x.rests(eye), 1);
            Check.due("rest by " + eye, x.rest(eye), 11);
        }
    }

    private static void suit(FollyShire x, int eye, boolean agent, boolean hermit, int toAgent, int toHermit) {
        String what = "sues " + eye + " " + agent + " " + hermit;
        Check.due(what + " of the agent", x.sues(eye, agent, hermit, false), toAgent);
        Check.due(what + " of the hermit", x.sues(eye, agent, hermit, true), toHermit);
    }

    private static void wrongNumbers() {
        FollyShire x = owing(1, 2);
        for (int e : new int[] {-1, 2}) {
            Check.refused(x, "power of " + e, x.power(e, false), -1, 1);
            Check.refused(x, "power of " + e, x.power(e, true), -1, 1);
        }
        for (int eye : new int[] {-1, 10, Integer.MIN_VALUE}) {
            Check.refused(x, "sues " + eye, x.sues(eye, true, true, true), -100, 2);
            Check.refused(x, "rests " + eye, x.rests(eye), Check.NONE, 2);
            Check.refused(x, "rest " + eye, x.rest(eye), Check.NONE, 2);
        }
        FollyShire none = new FollyShire();
        Check.refused(none, "rule of none", none.rule(), Check.NONE, 1);
        Check.refused(none, "sues of none", none.sues(0, true, true, true), -100, 1);
        Check.refused(none, "rests of none", none.rests(10), Check.NONE, 1);
        Check.refused(none, "rest of none", none.rest(10), Check.NONE, 1);
        Check.refused(none, "power of none", none.power(0, true), -1, 1);
    }
}
