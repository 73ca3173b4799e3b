/** The edges of Terms II and of promises 6 to 15, sentence by sentence: what follies answer, where letters go. */
public final class LettersEdgesTest {
    private static final String[] SHAPES = {"tower", "arch", "obelisk", "pyramid", "grotto"};
    private static final String SIX = "shire wind 0 rot 0;folly a tower sound 1;folly b tower sound 1;folly c tower sound 1;"
        + "folly d tower sound 1;folly e tower sound 1;folly f tower sound 1";
    private static final String ROW = SIX + ";sends a b;sends b c;sends c d;sends d e;sends e f";
    private static final String TWO = "shire wind 0 rot 0;folly a tower sound 1;folly b tower sound 1;estate p a debt 1";

    public static void main(String[] args) {
        ruins();
        shapes();
        lost();
        servedByLetters();
        years();
        folly();
        estate();
        answers();
        signs();
        signer();
        course();
        courseAt();
        served();
        rounds();
        idle();
        Check.end(6, 15);
    }

    // ---- Terms II

    private static void ruins() {
        Check.term("A folly that is sound for 0 years is a RUIN.");
        for (int shape = 0; shape < SHAPES.length; shape++) {
            FollyShire ruin = single(SHAPES[shape], 0);
            Check.taken(ruin, "a ruin of a " + SHAPES[shape] + " to yes", ruin.answers(0, true), -2);
            Check.taken(ruin, "a ruin of a " + SHAPES[shape] + " to no", ruin.answers(0, false), -2);
        }
        Check.due("a tower sound for 1 year", single("tower", 1).answers(0, true), 1);
        Check.term("a RUIN nothing; one with a hermit no");
        for (String shape : SHAPES) {
            FollyShire x = single(shape, 1);
            x.hire(0);
            Check.due("a hermit's " + shape + " to yes", x.answers(0, true), 0);
            Check.due("a hermit's " + shape + " to no", x.answers(0, false), 0);
            FollyShire ruin = single(shape, 0);
            ruin.hire(0);
            Check.due("a hermit's ruin of a " + shape + " to yes", ruin.answers(0, true), -2);
            Check.due("a hermit's ruin of a " + shape + " to no", ruin.answers(0, false), -2);
        }
    }

    private static void shapes() {
        Check.term("a pyramid the same in even years, the other one in odd years");
        FollyShire x = single("pyramid", 99);
        for (int year = 0; year <= 5; year++) {
            Check.due("to yes in year " + year, x.answers(0, true), year % 2 == 0 ? 1 : 0);
            Check.due("to no in year " + year, x.answers(0, false), year % 2 == 0 ? 0 : 1);
            x.year();
        }
        Check.term("else a tower the same, an arch the other one, an obelisk yes");
        for (int year = 0; year <= 1; year++) {
            int[] toYes = {1, 0, 1};
            int[] toNo = {0, 1, 1};
            for (int shape = 0; shape < 3; shape++) {
                FollyShire y = single(SHAPES[shape], 99);
                for (int i = 0; i < year; i++) {
                    y.year();
                }
                Check.due(SHAPES[shape] + " to yes in year " + year, y.answers(0, true), toYes[shape]);
                Check.due(SHAPES[shape] + " to no in year " + year, y.answers(0, false), toNo[shape]);
            }
        }
        Check.term("a grotto nothing.");
        Check.due("to yes", single("grotto", 99).answers(0, true), -2);
        Check.due("to no", single("grotto", 99).answers(0, false), -2);
    }

    private static void lost() {
        Check.term("the one that sends nowhere SIGNS it by what it ANSWERED.");
        FollyShire row = Check.made(ROW.replace("folly f tower", "folly f arch"));
        Check.due("the last of six turns it", row.signs(0, true), 0);
        Check.due("the last of six signs it", row.signer(0, true), 5);
        Check.due("put in at the last", row.signs(5, false), 1);
        Check.term("It is LOST where one ANSWERS nothing");
        for (char ruin = 'a'; ruin <= 'f'; ruin++) {
            FollyShire x = Check.made(ROW.replace("folly " + ruin + " tower sound 1", "folly " + ruin + " tower sound 0"));
            FollyShire g = Check.made(ROW.replace("folly " + ruin + " tower", "folly " + ruin + " grotto"));
            for (int f = 0; f < 6; f++) {
                boolean meets = f <= ruin - 'a';
                Check.due("from " + f + ", " + ruin + " being a ruin", x.signs(f, true), meets ? -2 : 1);
                Check.due("from " + f + ", " + ruin + " being a grotto", g.signs(f, true), meets ? -2 : 1);
                Check.due("its signer from " + f, x.signer(f, true), meets ? -2 : 5);
            }
        }
        Check.term("or at a folly to which it comes again.");
        for (int to = 0; to < 5; to++) {
            FollyShire x = Check.made(ROW + ";sends f " + (char) ('a' + to));
            for (int f = 0; f < 6; f++) {
                Check.due("from " + f + ", the last sending to " + to, x.signs(f, true), -2);
                Check.due("its signer", x.signer(f, true), -2);
            }
        }
    }

    private static void servedByLetters() {
        Check.term("An estate is SERVED by a letter (a folly and yes or no, numbered 2 times the folly and 1 for yes) "
            + "if its folly SIGNS that with yes.");
        FollyShire x = Check.made(SIX.replace("folly a tower", "folly a arch") + ";estate p a debt 0;estate q f debt 0");
        Check.due("by the least letter", x.serves(0), 1);
        Check.due("by the greatest letter", x.serves(1), 1 << 11);
        FollyShire no = Check.made(TWO + ";hermit a");
        Check.due("signed with no, it isn't", no.serves(0), 0);
        FollyShire on = Check.made(TWO + ";sends a b");
        Check.due("by a folly that answers yes and sends on, it isn't", on.serves(0), 0);
    }

    private static void years() {
        Check.term("At first it is year 0.");
        Check.due("the year", Check.made(SIX).size(8), 0);
        Check.term("A YEAR: the year's number is 1 more, each folly is sound for rot years less (0 at least).");
        for (int sound : new int[] {0, 1, 8, 9, 10, 99}) {
            FollyShire x = Check.made("shire wind 0 rot 9;folly a tower sound " + sound);
            x.year();
            Check.due("sound " + sound + " behind a year", x.folly(0, 1), Math.max(0, sound - 9));
            Check.due("its year", x.size(8), 1);
            x.year();
            Check.due("sound " + sound + " behind two", x.folly(0, 1), Math.max(0, sound - 18));
            Check.due("its year then", x.size(8), 2);
        }
        FollyShire still = Check.made("shire wind 0 rot 0;folly a tower sound 1");
        still.year();
        Check.due("by a rot of 0", still.folly(0, 1), 1);
    }

    // ---- promises

    private static void folly() {
        Check.promise(6, "3 to which it sends (-2 nowhere)");
        FollyShire x = Check.made(ROW);
        Check.taken(x, "the last of six", x.folly(5, 3), -2);
        Check.taken(x, "the one ahead of it", x.folly(4, 3), 5);
        FollyShire first = Check.made(TWO + ";sends b a");
        Check.taken(first, "to the first", first.folly(1, 3), 0);
        Check.promise(6, "2 1 if it has a hermit");
        FollyShire hermits = Check.made(SIX + ";hermit a;hermit f");
        int[] has = {1, 0, 0, 0, 0, 1};
        for (int f = 0; f < 6; f++) {
            Check.due("hermit of " + f, hermits.folly(f, 2), has[f]);
        }
        Check.promise(6, "4 estates for which it signs, as bits");
        FollyShire five = Check.made(SIX + estates("fffff"));
        Check.due("all five", five.folly(5, 4), 31);
        Check.due("none", five.folly(0, 4), 0);
        FollyShire some = Check.made(SIX + estates("afcaf"));
        Check.due("the first and the fourth", some.folly(0, 4), 9);
        Check.due("the second and the fifth", some.folly(5, 4), 18);
        Check.promise(6, "5 in how many years it is a RUIN first (0 NOW; -2 not by rot).");
        int[][] due = {{0, 0, 0}, {1, 0, -2}, {99, 0, -2}, {0, 9, 0}, {1, 9, 1}, {9, 9, 1}, {10, 9, 2}, {18, 9, 2}, {19, 9, 3},
            {99, 1, 99}, {99, 9, 11}, {98, 9, 11}, {1, 1, 1}};
        for (int[] each : due) {
            FollyShire y = Check.made("shire wind 0 rot " + each[1] + ";folly a tower sound " + each[0]);
            Check.taken(y, "sound " + each[0] + ", rot " + each[1], y.folly(0, 5), each[2]);
            if (each[2] > 0) {
                for (int i = 1; i < each[2]; i++) {
                    y.year();
                }
                Check.due("sound yet in the year ahead", y.folly(0, 1) > 0, true);
                Check.due("1 then", y.folly(0, 5), 1);
                y.year();
                Check.due("a ruin then", y.folly(0, 1), 0);
                Check.due("0 then", y.folly(0, 5), 0);
            }
        }
        Check.promise(6, "NONE: 1.");
        Check.within(x, "folly", 0, 5, 1, f -> x.folly(f, 1));
        Check.within(x, "what", 0, 5, 1, what -> x.folly(0, what));
        Check.refused(x, "neither folly nor what", x.folly(6, 6), Check.NONE, 1);
        Check.needsShire("folly", Check.NONE, none -> none.folly(0, 0));
        FollyShire one = single("tower", 1);
        Check.within(one, "folly of one", 0, 0, 1, f -> one.folly(f, 0));
    }

    private static void estate() {
        Check.promise(7, "2 1 if some letter SERVES it, else 0.");
        FollyShire x = Check.made(TWO + ";estate q b debt 99;hermit b");
        Check.taken(x, "p", x.estate(0, 2), 1);
        Check.taken(x, "q", x.estate(1, 2), 0);
        Check.promise(7, "0 its folly, 1 its debt");
        FollyShire five = Check.made(SIX + estates("fabcf").replace("debt 4", "debt 99"));
        Check.due("the first's folly", five.estate(0, 0), 5);
        Check.due("the last's folly", five.estate(4, 0), 5);
        Check.due("the second's folly", five.estate(1, 0), 0);
        Check.due("the first's debt", five.estate(0, 1), 0);
        Check.due("the last's debt", five.estate(4, 1), 99);
        Check.promise(7, "NONE: 1.");
        Check.within(x, "estate", 0, 1, 1, e -> x.estate(e, 1));
        Check.within(five, "estate of five", 0, 4, 1, e -> five.estate(e, 0));
        Check.within(x, "what", 0, 2, 1, what -> x.estate(0, what));
        Check.needsShire("estate", Check.NONE, none -> none.estate(0, 0));
        FollyShire without = single("tower", 1);
        Check.refused(without, "where there are none", without.estate(0, 0), Check.NONE, 1);
    }

    private static void answers() {
        Check.promise(8, "What a folly ANSWERS; -2 nothing.");
        FollyShire x = Check.made("shire wind 0 rot 0;folly a tower sound 1;folly b grotto sound 1;folly c tower sound 0;sends a b");
        Check.taken(x, "a, though it sends on", x.answers(0, true), 1);
        Check.taken(x, "a to no", x.answers(0, false), 0);
        Check.taken(x, "b", x.answers(1, true), -2);
        Check.taken(x, "c", x.answers(2, false), -2);
        Check.promise(8, "NONE: 1.");
        Check.within(x, "answers", 0, 2, 1, f -> x.answers(f, true));
        Check.needsShire("answers", Check.NONE, none -> none.answers(0, false));
    }

    private static void signs() {
        Check.promise(9, "With what a letter is SIGNED; -2 it is LOST.");
        FollyShire x = Check.made(ROW);
        Check.taken(x, "yes", x.signs(0, true), 1);
        Check.taken(x, "no", x.signs(0, false), 0);
        x.send(5, 0);
        Check.taken(x, "lost", x.signs(0, true), -2);
        Check.promise(9, "NONE: 1.");
        Check.within(x, "signs", 0, 5, 1, f -> x.signs(f, false));
        Check.needsShire("signs", Check.NONE, none -> none.signs(0, true));
    }

    private static void signer() {
        Check.promise(10, "The folly that SIGNS it; -2.");
        FollyShire x = Check.made(ROW);
        Check.taken(x, "of the first", x.signer(0, true), 5);
        Check.taken(x, "of the last", x.signer(5, true), 5);
        x.send(0, 0);
        Check.taken(x, "itself", x.signer(0, false), 0);
        x.send(5, 1);
        Check.taken(x, "none", x.signer(3, true), -2);
        Check.promise(10, "NONE: 1.");
        Check.within(x, "signer", 0, 5, 1, f -> x.signer(f, true));
        Check.needsShire("signer", Check.NONE, none -> none.signer(0, true));
    }

    private static void course() {
        Check.promise(11, "How many follies ANSWER on its COURSE.");
        FollyShire x = Check.made(ROW);
        Check.taken(x, "all six", x.course(0, true), 6);
        Check.taken(x, "the last alone", x.course(5, true), 1);
        x.send(5, 0);
        Check.taken(x, "all six, lost as it comes again", x.course(3, true), 6);
        FollyShire ruin = single("tower", 0);
        Check.taken(ruin, "none", ruin.course(0, true), 0);
        FollyShire last = Check.made(ROW.replace("folly f tower", "folly f grotto"));
        Check.taken(last, "all but the last", last.course(0, false), 5);
        Check.promise(11, "NONE: 1.");
        Check.within(x, "course", 0, 5, 1, f -> x.course(f, true));
        Check.needsShire("course", Check.NONE, none -> none.course(0, true));
    }

    private static void courseAt() {
        Check.promise(12, "the one where it is LOST for want of an answer, too");
        FollyShire ruin = single("tower", 0);
        Check.taken(ruin, "a ruin", ruin.courseAt(0, true, 0), 0);
        Check.refused(ruin, "behind a ruin", ruin.courseAt(0, true, 1), Check.NONE, 1);
        FollyShire last = Check.made(ROW.replace("folly f tower", "folly f grotto"));
        Check.taken(last, "the grotto at the end", last.courseAt(0, true, 5), 5);
        Check.promise(12, "one to which it comes again isn't told again");
        FollyShire x = Check.made(ROW + ";sends f c");
        Check.taken(x, "the last of six", x.courseAt(0, true, 5), 5);
        Check.refused(x, "c again", x.courseAt(0, true, 6), Check.NONE, 1);
        Check.taken(x, "from d, the last", x.courseAt(3, true, 3), 2);
        Check.refused(x, "from d, d again", x.courseAt(3, true, 4), Check.NONE, 1);
        Check.promise(12, "NONE: 1 (i, too).");
        FollyShire row = Check.made(ROW);
        for (int f = 0; f < 6; f++) {
            int from = f;
            Check.within(row, "i from " + f, 0, 5 - f, 1, i -> row.courseAt(from, true, i));
        }
        Check.within(row, "courseAt", 0, 5, 1, f -> row.courseAt(f, true, 0));
        Check.needsShire("courseAt", Check.NONE, none -> none.courseAt(0, true, 0));
    }

    private static void served() {
        Check.promise(13, "Estates that are SERVED by some letter, as bits.");
        FollyShire five = Check.made(SIX + estates("abcde"));
        Check.taken(five, "all five", five.served(), 31);
        five.hire(4);
        Check.taken(five, "all but the last", five.served(), 15);
        five.hire(0);
        Check.taken(five, "nor the first", five.served(), 14);
        FollyShire none = single("tower", 1);
        Check.taken(none, "of none", none.served(), 0);
        FollyShire lost = Check.made(TWO.replace("folly a tower", "folly a grotto"));
        Check.taken(lost, "none of one", lost.served(), 0);
        Check.promise(13, "NONE: 1 (no SHIRE).");
        Check.needsShire("served", Check.NONE, FollyShire::served);
    }

    private static void rounds() {
        Check.promise(14, "Follies from which, by where they send, one comes back to them, as bits.");
        FollyShire x = Check.made(ROW);
        Check.taken(x, "none", x.rounds(), 0);
        int[] due = {63, 62, 60, 56, 48};
        for (int to = 0; to < 5; to++) {
            x.send(5, to);
            Check.taken(x, "the last sending to " + to, x.rounds(), due[to]);
        }
        FollyShire ruins = Check.made("shire wind 0 rot 0;folly a tower sound 0;folly b grotto sound 1;sends a b;sends b a");
        Check.taken(ruins, "of a ruin and a grotto, too", ruins.rounds(), 3);
        FollyShire three = Check.made(SIX + ";sends a b;sends b a;sends c d;sends d c;sends e f;sends f e");
        Check.taken(three, "three of two", three.rounds(), 63);
        FollyShire one = single("tower", 1);
        Check.taken(one, "one alone", one.rounds(), 0);
        Check.promise(14, "NONE: 1 (no SHIRE).");
        Check.needsShire("rounds", Check.NONE, FollyShire::rounds);
    }

    private static void idle() {
        Check.promise(15, "The first folly that SIGNS no letter whatever (wherever put in), and ANSWERS something; -2 none.");
        FollyShire x = Check.made(SIX);
        Check.taken(x, "all sign", x.idle(), -2);
        x.send(5, 0);
        Check.taken(x, "the last alone", x.idle(), 5);
        x.send(4, 0);
        Check.taken(x, "the first of two", x.idle(), 4);
        x.send(0, 1);
        Check.taken(x, "the first of all", x.idle(), 0);
        FollyShire ruins = Check.made("shire wind 0 rot 0;folly a tower sound 0;folly b grotto sound 1");
        Check.taken(ruins, "a ruin and a grotto answer nothing", ruins.idle(), -2);
        FollyShire round = Check.made(TWO + ";sends a b;sends b a");
        Check.taken(round, "in a round", round.idle(), 0);
        FollyShire no = Check.made(TWO + ";hermit a;hermit b");
        Check.taken(no, "signing no is signing", no.idle(), -2);
        Check.promise(15, "NONE: 1 (no SHIRE).");
        Check.needsShire("idle", Check.NONE, FollyShire::idle);
    }

    // ---- what they share

    private static FollyShire single(String shape, int sound) {
        return Check.made("shire wind 0 rot 1;folly a " + shape + " sound " + sound);
    }

    /** An estate for each of these follies, with a debt of its number. */
    private static String estates(String follies) {
        StringBuilder text = new StringBuilder();
        for (int e = 0; e < follies.length(); e++) {
            text.append(";estate ").append((char) ('p' + e)).append(' ').append(follies.charAt(e)).append(" debt ").append(e);
        }
        return text.toString();
    }
}
