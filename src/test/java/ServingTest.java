/** Promises 16 to 22: which letters serve an estate, the shortest, the widest, the change that helps. */
public final class ServingTest {
    public static void main(String[] args) {
        letters();
        changes();
        wrongNumbers();
        Check.end();
    }

    private static void letters() {
        FollyShire x = Check.made("shire wind 0 rot 1;folly a arch sound 9;folly b tower sound 9;folly c obelisk sound 3;"
            + "folly d tower sound 9;sends a b;sends c d;estate p b debt 1;estate q d debt 2;estate r d debt 3;estate s a debt 0");
        Check.due("p: a no, b yes", x.serves(0), 1 + 8);
        Check.due("q: c no, c yes, d yes", x.serves(1), 16 + 32 + 128);
        Check.due("r likewise", x.serves(2), 176);
        Check.due("s: a sends on", x.serves(3), 0);
        Check.due("best of p, though not the first", x.best(0), 3);
        Check.due("shortest of p", x.shortest(0), 1);
        Check.due("best of q", x.best(1), 7);
        Check.due("best of s", x.best(3), -2);
        Check.due("shortest of s", x.shortest(3), -2);
        Check.due("the first that serves two", x.widest(), 4);
        x.hire(3);
        Check.due("now by d's hermit never", x.serves(1), 0);
        Check.due("widest then", x.widest(), 0);
        x.hire(1);
        Check.due("none serves any", x.widest(), -2);
        Check.due("-2 is no refusal", x.trouble(), 0);
        FollyShire y = Check.made("shire wind 0 rot 1;folly a tower sound 9;folly b obelisk sound 9;sends a b;estate p b debt 1");
        Check.due("all serve p", y.serves(0), 15);
        Check.due("of the shortest the first", y.best(0), 2);
        Check.due("of the shortest", y.shortest(0), 1);
        Check.due("of the widest the first", y.widest(), 0);
    }

    private static void changes() {
        FollyShire x = Check.made("shire wind 0 rot 0;folly a grotto sound 1;folly b tower sound 1;folly c tower sound 1;"
            + "folly d obelisk sound 1;sends b a;sends c a;sends d a;estate p b debt 1;estate q c debt 1;estate r d debt 1;"
            + "estate s d debt 1");
        Check.due("served now", x.served(), 0);
        Check.due("d nowhere", x.change(), 33);
        Check.due("d nowhere serves", x.changeServes(), 2);
        Check.due("if b sent nowhere", x.servedIf(1, 1), 1);
        Check.due("if d sent nowhere", x.servedIf(3, 3), 2);
        Check.due("if b sent to c", x.servedIf(1, 2), 0);
        Check.due("if a sent to b", x.servedIf(0, 1), 0);
        Check.due("as it does", x.servedIf(1, 0), 0);
        Check.due("nothing is changed", x.size(3), 3);
        Check.due("and nothing to undo", x.size(9), 0);
        x.send(3, 3);
        Check.due("of like ones the first", x.change(), 11);
        Check.due("of like ones", x.changeServes(), 3);
        Check.due("if d sent to b", x.servedIf(3, 1), 0);
        x.send(1, 1);
        Check.due("then c", x.change(), 22);
        x.send(2, 2);
        Check.due("then none", x.change(), -2);
        Check.due("then none", x.changeServes(), -2);
        Check.due("all", x.servedIf(0, 0), 4);
    }

    private static void wrongNumbers() {
        FollyShire x = Check.made("shire wind 0 rot 0;folly a tower sound 1;folly b tower sound 1;estate p a debt 1");
        for (int e : new int[] {-1, 1, Integer.MAX_VALUE}) {
            Check.refused(x, "serves " + e, x.serves(e), Check.NONE, 1);
            Check.refused(x, "best " + e, x.best(e), Check.NONE, 1);
            Check.refused(x, "shortest " + e, x.shortest(e), Check.NONE, 1);
        }
        for (int f : new int[] {-1, 2, Integer.MIN_VALUE}) {
            Check.refused(x, "servedIf " + f + ", 0", x.servedIf(f, 0), Check.NONE, 1);
            Check.refused(x, "servedIf 0, " + f, x.servedIf(0, f), Check.NONE, 1);
        }
        FollyShire none = new FollyShire();
        Check.refused(none, "widest of none", none.widest(), Check.NONE, 1);
        Check.refused(none, "change of none", none.change(), Check.NONE, 1);
        Check.refused(none, "changeServes of none", none.changeServes(), Check.NONE, 1);
    }
}
