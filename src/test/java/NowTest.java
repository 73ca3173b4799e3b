/** Promises 6 to 15 and 53 to 55: what follies answer now, where letters go, what is told. */
public final class NowTest {
    // a 0, b 1, c 2 and d 3 send in a row; e 4 sends to f 5 and f to e
    private static final String ROW = "shire wind 30 rot 2;folly a tower sound 9;folly b arch sound 4;"
        + "folly c obelisk sound 5;folly d pyramid sound 50;folly e arch sound 1;folly f tower sound 0;"
        + "sends a b;sends b c;sends c d;sends e a;estate p d debt 7;estate q c debt 0;estate r d debt 99;estate s f debt 5";

    public static void main(String[] args) {
        follies();
        estates();
        shapes();
        courses();
        rounds();
        idle();
        told();
        Check.end();
    }

    private static void follies() {
        FollyShire x = Check.made(ROW + ";hermit b");
        Check.due("shape of a", x.folly(0, 0), 0);
        Check.due("shape of d", x.folly(3, 0), 3);
        Check.due("sound d", x.folly(3, 1), 50);
        Check.due("hermit of b", x.folly(1, 2), 1);
        Check.due("hermit of a", x.folly(0, 2), 0);
        Check.due("a sends to", x.folly(0, 3), 1);
        Check.due("d sends nowhere", x.folly(3, 3), -2);
        Check.due("d signs for", x.folly(3, 4), 5);
        Check.due("a signs for", x.folly(0, 4), 0);
        Check.due("f signs for", x.folly(5, 4), 8);
        Check.due("a is a ruin in", x.folly(0, 5), 5);
        Check.due("b is a ruin in", x.folly(1, 5), 2);
        Check.due("e is a ruin in", x.folly(4, 5), 1);
        Check.due("f is a ruin now", x.folly(5, 5), 0);
        FollyShire still = Check.made("shire wind 0 rot 0;folly a tower sound 1;folly b tower sound 0");
        Check.due("not by rot", still.folly(0, 5), -2);
        Check.due("without rot, but now", still.folly(1, 5), 0);
        Check.refused(x, "folly 6", x.folly(6, 0), Check.NONE, 1);
        Check.refused(x, "folly -1", x.folly(-1, 0), Check.NONE, 1);
        Check.refused(x, "what 6", x.folly(0, 6), Check.NONE, 1);
        Check.refused(x, "what -1", x.folly(0, -1), Check.NONE, 1);
        Check.due("folly again", x.folly(0, 0), 0);
        Check.due("no trouble then", x.trouble(), 0);
    }

    private static void estates() {
        FollyShire x = Check.made(ROW);
        Check.due("folly of p", x.estate(0, 0), 3);
        Check.due("debt of r", x.estate(2, 1), 99);
        Check.due("p is served", x.estate(0, 2), 1);
        Check.due("q is not: c sends on", x.estate(1, 2), 0);
        Check.due("s is not: a ruin", x.estate(3, 2), 0);
        Check.refused(x, "estate 4", x.estate(4, 0), Check.NONE, 1);
        Check.refused(x, "estate -1", x.estate(-1, 0), Check.NONE, 1);
        Check.refused(x, "what 3", x.estate(0, 3), Check.NONE, 1);
        Check.refused(x, "what -1", x.estate(0, -1), Check.NONE, 1);
    }

    private static void shapes() {
        FollyShire x = Check.made("shire wind 0 rot 1;folly t tower sound 9;folly a arch sound 9;folly o obelisk sound 9;"
            + "folly p pyramid sound 9;folly g grotto sound 9");
        int[] toYes = {1, 0, 1, 1, -2};
        int[] toNo = {0, 1, 1, 0, -2};
        for (int f = 0; f < 5; f++) {
            Check.due("to yes " + f, x.answers(f, true), toYes[f]);
            Check.due("to no " + f, x.answers(f, false), toNo[f]);
        }
        x.year();
        Check.due("a pyramid in an odd year, yes", x.answers(3, true), 0);
        Check.due("a pyramid in an odd year, no", x.answers(3, false), 1);
        Check.due("an arch in an odd year", x.answers(1, true), 0);
        x.year();
        Check.due("a pyramid in an even year", x.answers(3, true), 1);
        for (int f = 0; f < 5; f++) {
            x.hire(f);
            Check.due("with a hermit " + f, x.answers(f, true), 0);
            Check.due("with a hermit " + f, x.answers(f, false), 0);
        }
        for (int i = 0; i < 7; i++) {
            x.year();
        }
        for (int f = 0; f < 5; f++) {
            Check.due("a ruin with a hermit " + f, x.answers(f, true), -2);
        }
        Check.refused(x, "answers of 5", x.answers(5, true), Check.NONE, 1);
        Check.refused(x, "answers of -1", x.answers(-1, false), Check.NONE, 1);
    }

    private static void courses() {
        FollyShire x = Check.made(ROW);
        Check.due("a yes: tower yes, arch no, obelisk yes, pyramid yes", x.signs(0, true), 1);
        Check.due("its signer", x.signer(0, true), 3);
        Check.due("its course", x.course(0, true), 4);
        for (int i = 0; i < 4; i++) {
            Check.due("its course at " + i, x.courseAt(0, true, i), i);
        }
        Check.refused(x, "course at 4", x.courseAt(0, true, 4), Check.NONE, 1);
        Check.refused(x, "course at -1", x.courseAt(0, true, -1), Check.NONE, 1);
        Check.due("d no", x.signs(3, false), 0);
        Check.due("d no: its signer", x.signer(3, false), 3);
        Check.due("f", x.signs(5, true), -2);
        Check.due("f: its signer", x.signer(5, true), -2);
        Check.due("f: course", x.course(5, true), 0);
        Check.due("f: course at 0", x.courseAt(5, true, 0), 5);
        x.send(3, 5);
        Check.due("lost at f", x.signs(0, true), -2);
        Check.due("lost at f: answers", x.course(0, true), 4);
        Check.due("lost at f: told too", x.courseAt(0, true, 4), 5);
        Check.refused(x, "lost at f: no more", x.courseAt(0, true, 5), Check.NONE, 1);
        x.send(3, 1);
        Check.due("comes again to b", x.signs(0, false), -2);
        Check.due("comes again: its signer", x.signer(0, false), -2);
        Check.due("comes again: answers", x.course(0, false), 4);
        Check.due("comes again: at 3", x.courseAt(0, false, 3), 3);
        Check.refused(x, "comes again: not told again", x.courseAt(0, false, 4), Check.NONE, 1);
        Check.due("six of them at most", x.course(4, true), 5);
        Check.refused(x, "signs of 6", x.signs(6, true), Check.NONE, 1);
        Check.refused(x, "signer of 6", x.signer(6, true), Check.NONE, 1);
        Check.refused(x, "course of -1", x.course(-1, true), Check.NONE, 1);
        Check.refused(x, "courseAt of -1", x.courseAt(-1, true, 0), Check.NONE, 1);
        Check.due("served by none", x.served(), 0);
        x.undo();
        x.undo();
        Check.due("served", x.served(), 5);
    }

    private static void rounds() {
        FollyShire x = Check.made(ROW);
        Check.due("no rounds", x.rounds(), 0);
        x.send(3, 1);
        Check.due("b, c, d", x.rounds(), 14);
        x.send(5, 4);
        Check.due("neither e nor f", x.rounds(), 14);
        x.send(4, 5);
        Check.due("e and f, too", x.rounds(), 62);
        x.send(3, 0);
        Check.due("all", x.rounds(), 63);
    }

    private static void idle() {
        FollyShire x = Check.made(ROW);
        Check.due("a sends on", x.idle(), 0);
        FollyShire y = Check.made("shire wind 0 rot 0;folly a tower sound 0;folly b grotto sound 1;folly c arch sound 1;"
            + "folly d arch sound 1;sends a c;sends b c;sends d c");
        Check.due("a ruin and a grotto answer nothing", y.idle(), 3);
        y.send(3, 3);
        Check.due("none", y.idle(), -2);
        y.hire(1);
        Check.due("a grotto with a hermit", y.idle(), 1);
    }

    private static void told() {
        FollyShire x = Check.made(ROW + ";hermit b;hermit e;veiled b;veiled a;signed a yes yes;signed b no lost;signed b no lost");
        int[] due = {30, 2, 6, 4, 2, 4, 2, 3, 0, 0, 0, 0};
        for (int what = 0; what < due.length; what++) {
            Check.due("size " + what, x.size(what), due[what]);
        }
        Check.due("size -1", x.size(-1), Check.NONE);
        Check.due("size 12", x.size(12), Check.NONE);
        Check.due("size is never refused by a number", x.trouble(), 0);
        x.send(0, 0);
        x.hire(0);
        x.year();
        x.image();
        x.feed(0, 0, 0, 0, 0);
        int[] then = {30, 2, 6, 3, 3, 4, 2, 3, 1, 3, 1, 20};
        for (int what = 0; what < then.length; what++) {
            Check.due("size " + what + " then", x.size(what), then[what]);
        }
        FollyShire y = Check.made(ROW);
        Check.due("served", y.served(), 5);
        Check.due("led 0", y.led(0), 1);
        Check.due("led 1", y.led(1), 3);
        y.folly(9, 9);
        Check.ledThrows(y, 2);
        Check.ledThrows(y, -1);
        Check.ledThrows(y, Integer.MAX_VALUE);
        Check.due("trouble stays behind led and size", y.trouble() + 0 * y.size(99), 1);
    }
}
