/** Promises 42 to 45: winds by chance and by draws. */
public final class WindsTest {
    private static final String FOLLIES = ";folly a tower sound 1;folly b arch sound 1;folly c grotto sound 1;"
        + "folly d obelisk sound 1;sends a b";

    public static void main(String[] args) {
        chances();
        longest();
        draws();
        wrongNumbers();
        Check.end();
    }

    private static FollyShire windy(int wind) {
        return Check.made("shire wind " + wind + " rot 0" + FOLLIES);
    }

    private static void odds(FollyShire x, int f, boolean yes, boolean answer, long upper, long lower) {
        String what = "odds of " + f + " " + yes + " " + answer;
        Check.due(what + ", upper", x.odds(f, yes, answer, false), upper);
        Check.due(what + ", lower", x.odds(f, yes, answer, true), lower);
    }

    private static void lost(FollyShire x, int f, long upper) {
        Check.due("lost odds of " + f + ", upper", x.lostOdds(f, true, false), upper);
        Check.due("lost odds of " + f + ", lower", x.lostOdds(f, true, true), 1);
        Check.due("lost odds: trouble", x.trouble(), 0);
    }

    private static void chances() {
        FollyShire x = windy(30);
        odds(x, 0, true, true, 21, 50);
        odds(x, 0, true, false, 29, 50);
        odds(x, 0, false, true, 29, 50);
        odds(x, 1, true, true, 3, 10);
        odds(x, 1, false, true, 7, 10);
        odds(x, 3, false, true, 7, 10);
        odds(x, 3, true, false, 3, 10);
        odds(x, 2, true, true, 0, 1);
        odds(x, 2, true, false, 0, 1);
        lost(x, 0, 0);
        lost(x, 2, 1);
        x.hire(1);
        odds(x, 0, true, true, 3, 10);
        x.send(1, 2);
        odds(x, 0, true, true, 0, 1);
        lost(x, 0, 1);
        x.send(1, 0);
        odds(x, 0, true, false, 0, 1);
        lost(x, 1, 1);
        FollyShire sure = windy(100);
        odds(sure, 0, true, true, 0, 1);
        odds(sure, 0, true, false, 1, 1);
        odds(sure, 3, true, false, 1, 1);
        odds(windy(0), 0, true, false, 1, 1);
        odds(windy(50), 0, true, true, 1, 2);
    }

    private static void longest() {
        StringBuilder text = new StringBuilder("shire wind 1 rot 0");
        for (char name = 'a'; name <= 'f'; name++) {
            text.append(";folly ").append(name).append(" tower sound 1");
        }
        for (char name = 'a'; name < 'f'; name++) {
            text.append(";sends ").append(name).append(' ').append((char) (name + 1));
        }
        FollyShire x = Check.made(text.toString());
        // half of 1 and (98 of 100) to the sixth
        odds(x, 0, true, true, 29466287201L, 31250000000L);
        odds(x, 0, true, false, 31250000000L - 29466287201L, 31250000000L);
    }

    private static void draws() {
        // from 0: 74, 5624, 28652, 51790
        FollyShire x = windy(30);
        Check.due("a draw of 74", x.blown(1, true, 0), 0);
        Check.due("draws of 74 and 24", x.blown(0, true, 0), 1);
        Check.due("lost", x.blown(2, true, 0), -2);
        Check.due("yeses of none", x.yeses(3, true, 0, 0), 0);
        Check.due("yeses: 74", x.yeses(3, true, 0, 1), 1);
        Check.due("yeses: 74, 24", x.yeses(3, true, 0, 2), 1);
        Check.due("yeses: 74, 24, 52, 90", x.yeses(3, false, 0, 4), 3);
        Check.due("yeses of two, two draws each", x.yeses(0, true, 0, 2), 1);
        Check.due("yeses of lost ones", x.yeses(2, true, 0, 60), 0);
        Check.due("74 is not below 74", windy(74).blown(3, true, 0), 1);
        Check.due("74 is below 75", windy(75).blown(3, true, 0), 0);
        Check.due("65,536 goes on to itself", windy(36).yeses(3, true, 65536, 60), 60);
        Check.due("36 is below 37", windy(37).yeses(3, true, 65536, 60), 0);
        Check.due("the last seed", windy(37).blown(3, true, 65536), 0);
        Check.due("always the other one", windy(100).yeses(3, true, 7, 60), 0);
        x.hire(1);
        Check.due("a hermit's no, turned by 24", x.blown(0, true, 0), 1);
        Check.due("a hermit's no", x.blown(1, true, 0), 0);
        x.send(1, 0);
        Check.due("comes again", x.blown(1, true, 0), -2);
        Check.due("acts alone are kept", x.size(9), 2);
    }

    private static void wrongNumbers() {
        FollyShire x = windy(30);
        for (int f : new int[] {-1, 4}) {
            Check.refused(x, "odds of " + f, x.odds(f, true, true, true), -1, 1);
            Check.refused(x, "lostOdds of " + f, x.lostOdds(f, true, true), -1, 1);
            Check.refused(x, "blown of " + f, x.blown(f, true, 65537), Check.NONE, 1);
            Check.refused(x, "yeses of " + f, x.yeses(f, true, -1, -1), Check.NONE, 1);
        }
        for (int seed : new int[] {-1, 65537, Integer.MAX_VALUE}) {
            Check.refused(x, "blown by " + seed, x.blown(0, true, seed), Check.NONE, 2);
            Check.refused(x, "yeses by " + seed, x.yeses(0, true, seed, 1), Check.NONE, 2);
        }
        for (int n : new int[] {-1, 61}) {
            Check.refused(x, "yeses of " + n, x.yeses(0, true, 0, n), Check.NONE, 2);
        }
    }
}
