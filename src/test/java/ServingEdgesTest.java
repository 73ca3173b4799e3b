/** The edges of CHANGE and of promises 16 to 22, sentence by sentence. */
public final class ServingEdgesTest {
    private static final String SIX = "shire wind 0 rot 0;folly a tower sound 1;folly b tower sound 1;folly c tower sound 1;"
        + "folly d tower sound 1;folly e tower sound 1;folly f tower sound 1";
    private static final String LONE = "shire wind 0 rot 0;folly a tower sound 1";

    public static void main(String[] args) {
        serves();
        best();
        shortest();
        widest();
        change();
        changeServes();
        servedIf();
        Check.end(16, 22);
    }

    private static void serves() {
        Check.promise(16, "Letters that SERVE it, as bits by their numbers.");
        FollyShire all = Check.made(SIX.replace("f tower", "f obelisk")
            + ";sends a b;sends b c;sends c d;sends d e;sends e f;estate p f debt 0;estate q a debt 0");
        Check.taken(all, "all twelve", all.serves(0), 4095);
        Check.taken(all, "none", all.serves(1), 0);
        FollyShire yes = Check.made(SIX + ";sends a f;estate p f debt 0");
        Check.taken(yes, "the second and the last", yes.serves(0), 2 + 2048);
        Check.promise(16, "NONE: 1.");
        Check.within(all, "serves", 0, 1, 1, all::serves);
        Check.needsShire("serves", Check.NONE, none -> none.serves(0));
        FollyShire without = Check.made(LONE);
        Check.refused(without, "where there are none", without.serves(0), Check.NONE, 1);
    }

    private static void best() {
        Check.promise(17, "The letter of the shortest COURSE that SERVES it, the first such; -2 none does.");
        FollyShire x = Check.made(SIX.replace("f tower", "f obelisk").replace("e tower", "e arch").replace("d tower", "d grotto")
            + ";sends a f;sends b f;estate p f debt 0;estate q e debt 0;estate r c debt 0;estate s d debt 0;estate t a debt 0");
        Check.taken(x, "of both put in at f the first, though a's come ahead", x.best(0), 10);
        Check.taken(x, "an arch's", x.best(1), 8);
        Check.taken(x, "a tower's", x.best(2), 5);
        Check.taken(x, "a grotto's", x.best(3), -2);
        Check.taken(x, "one that sends on", x.best(4), -2);
        FollyShire lone = Check.made(LONE.replace("tower", "arch") + ";estate p a debt 0");
        Check.taken(lone, "letter 0 is no refusal", lone.best(0), 0);
        Check.promise(17, "NONE: 1.");
        Check.within(x, "best", 0, 4, 1, x::best);
        Check.needsShire("best", Check.NONE, none -> none.best(0));
        FollyShire without = Check.made(LONE);
        Check.refused(without, "where there are none", without.best(0), Check.NONE, 1);
    }

    private static void shortest() {
        Check.promise(18, "How many follies ANSWER on that; -2 likewise.");
        FollyShire x = Check.made(SIX + ";sends a b;sends b c;estate p c debt 0;estate q a debt 0");
        Check.taken(x, "c alone", x.shortest(0), 1);
        Check.taken(x, "none", x.shortest(1), -2);
        x.hire(2);
        Check.taken(x, "none by a hermit", x.shortest(0), -2);
        Check.promise(18, "NONE: 1.");
        Check.within(x, "shortest", 0, 1, 1, x::shortest);
        Check.needsShire("shortest", Check.NONE, none -> none.shortest(0));
        FollyShire without = Check.made(LONE);
        Check.refused(without, "where there are none", without.shortest(0), Check.NONE, 1);
    }

    private static void widest() {
        Check.promise(19, "The letter that SERVES most estates (as attorney of several), the first such; -2 none serves any.");
        FollyShire x = Check.made(SIX + ";estate p a debt 0;estate q f debt 0;estate r f debt 0;estate s e debt 0;estate t e debt 0");
        Check.taken(x, "of two by two the first", x.widest(), 9);
        x.hire(4);
        Check.taken(x, "the last letter", x.widest(), 11);
        x.hire(5);
        Check.taken(x, "one serves one", x.widest(), 1);
        x.hire(0);
        Check.taken(x, "none serves any", x.widest(), -2);
        FollyShire without = Check.made(LONE);
        Check.taken(without, "no estates", without.widest(), -2);
        FollyShire first = Check.made(LONE.replace("tower", "obelisk") + ";estate p a debt 0");
        Check.taken(first, "letter 0", first.widest(), 0);
        FollyShire five = Check.made(SIX + ";estate p f debt 0;estate q f debt 0;estate r f debt 0;estate s f debt 0;"
            + "estate t f debt 0;sends a f");
        Check.taken(five, "all five by another's letter", five.widest(), 1);
        Check.promise(19, "NONE: 1 (no SHIRE).");
        Check.needsShire("widest", Check.NONE, FollyShire::widest);
    }

    private static void change() {
        Check.term("of like ones the first by follies, then by where (nowhere ahead of all, then by numbers)");
        FollyShire x = Check.made(SIX + ";sends c a;sends e a;sends f a;estate p c debt 0;estate q e debt 0;estate r f debt 0;"
            + "estate s f debt 0");
        Check.taken(x, "two by the last folly", x.change(), 55);
        x.send(5, 5);
        Check.taken(x, "one each: the first of two", x.change(), 22);
        x.send(2, 2);
        Check.taken(x, "the last that is left", x.change(), 44);
        Check.term("but one by which more are than NOW.");
        x.send(4, 4);
        Check.taken(x, "all are", x.change(), -2);
        x.hire(5);
        Check.taken(x, "a hermit's are by no change", x.change(), -2);
        Check.promise(20, "10 times the folly and to which it sends (its own number: nowhere); -2 by none more.");
        FollyShire first = Check.made(LONE + ";folly b tower sound 1;sends a b;estate p a debt 0");
        Check.taken(first, "the first nowhere: 0", first.change(), 0);
        FollyShire without = Check.made(LONE);
        Check.taken(without, "no estates", without.change(), -2);
        FollyShire ruin = Check.made("shire wind 0 rot 0;folly a tower sound 0;folly b tower sound 1;sends a b;estate p a debt 0");
        Check.taken(ruin, "a ruin", ruin.change(), -2);
        Check.due("nothing is changed", first.folly(0, 3), 1);
        Check.due("nothing to undo", first.size(9), 0);
        Check.promise(20, "NONE: 1 (no SHIRE).");
        Check.needsShire("change", Check.NONE, FollyShire::change);
    }

    private static void changeServes() {
        Check.promise(21, "How many estates are SERVED by it; -2 likewise.");
        FollyShire x = Check.made(SIX + ";sends f a;estate p a debt 0;estate q f debt 0;estate r f debt 0;estate s f debt 0;"
            + "estate t f debt 0");
        Check.taken(x, "all five", x.changeServes(), 5);
        x.hire(0);
        Check.taken(x, "four", x.changeServes(), 4);
        x.send(5, 5);
        Check.taken(x, "by none more", x.changeServes(), -2);
        FollyShire without = Check.made(LONE);
        Check.taken(without, "no estates", without.changeServes(), -2);
        Check.promise(21, "NONE: 1 (no SHIRE).");
        Check.needsShire("changeServes", Check.NONE, FollyShire::changeServes);
    }

    private static void servedIf() {
        Check.promise(22, "How many estates would be SERVED if a folly sent there (its own number: nowhere).");
        FollyShire x = Check.made(SIX + ";sends f a;estate p a debt 0;estate q f debt 0;estate r f debt 0;estate s f debt 0;"
            + "estate t f debt 0");
        Check.taken(x, "the last nowhere", x.servedIf(5, 5), 5);
        Check.taken(x, "as it does", x.servedIf(5, 0), 1);
        Check.taken(x, "the first nowhere, as it does", x.servedIf(0, 0), 1);
        Check.taken(x, "the first to the last: none", x.servedIf(0, 5), 0);
        Check.due("nothing is changed", x.folly(0, 3), -2);
        Check.due("nothing to undo", x.size(9), 0);
        FollyShire lone = Check.made(LONE);
        Check.taken(lone, "no estates", lone.servedIf(0, 0), 0);
        Check.promise(22, "NONE: 1.");
        Check.within(x, "servedIf of", 0, 5, 1, f -> x.servedIf(f, 0));
        Check.within(x, "servedIf to", 0, 5, 1, to -> x.servedIf(0, to));
        Check.within(x, "servedIf of and to", 0, 5, 1, f -> x.servedIf(f, f));
        Check.needsShire("servedIf", Check.NONE, none -> none.servedIf(0, 0));
    }
}
