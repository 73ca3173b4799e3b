/** The edges of Terms IV and of promises 53 to 55, sentence by sentence; and the last of an object's 512 calls. */
public final class TroubleEdgesTest {
    private static final String SHIRE = "shire wind 30 rot 2;folly a tower sound 9;folly b arch sound 4;folly c grotto sound 5;"
        + "sends a b;hermit a;estate p b debt 7;estate q c debt 0;estate r b debt 9;estate s c debt 5;estate t a debt 1;"
        + "veiled a;signed a yes yes;signed a no yes";

    public static void main(String[] args) {
        led();
        size();
        trouble();
        numbersOfTrouble();
        constants();
        calls();
        Check.end(53, 55);
    }

    private static void led() {
        Check.promise(53, "The i-th estate, by numbers, that is SERVED by no letter.");
        FollyShire x = Check.made(SHIRE);
        Check.due("p and r are served", x.served(), 5);
        Check.due("the first", x.led(0), 1);
        Check.due("the second", x.led(1), 3);
        Check.due("the third", x.led(2), 4);
        x.hire(1);
        for (int i = 0; i < 5; i++) {
            Check.due("all five are led, " + i, x.led(i), i);
        }
        Check.promise(53, "NoSuchElementException if there is none such.");
        Check.ledThrows(x, 5);
        x.undo();
        for (int i : new int[] {3, -1, Integer.MIN_VALUE, Integer.MAX_VALUE}) {
            Check.ledThrows(x, i);
        }
        FollyShire served = Check.made("shire wind 0 rot 0;folly a tower sound 1;estate p a debt 0");
        Check.ledThrows(served, 0);
        FollyShire without = Check.made("shire wind 0 rot 0;folly a tower sound 1");
        Check.ledThrows(without, 0);
        FollyShire none = new FollyShire();
        Check.ledThrows(none, 0);
        Check.ledThrows(none, -1);
        Check.due("nothing comes of it", x.size(9), 0);
    }

    private static void size() {
        Check.promise(54, "NONE for others");
        FollyShire x = Check.made(SHIRE);
        FollyShire none = new FollyShire();
        for (int what : new int[] {-1, 12, 100, Integer.MIN_VALUE, Integer.MAX_VALUE}) {
            Check.due("size " + what, x.size(what), Check.NONE);
            Check.due("size " + what + " of no shire", none.size(what), Check.NONE);
        }
        Check.promise(54, "0 for what there isn't.");
        for (int what = 0; what <= 11; what++) {
            Check.due("size " + what + " of no shire", none.size(what), 0);
        }
        Check.read(none, "shire wind 9 rot 9;folly a tower sound 1;hermit a;estate p a debt 1;veiled a;signed a yes no;?");
        for (int what = 0; what <= 11; what++) {
            Check.due("size " + what + " of a faulty one", none.size(what), 0);
        }
        FollyShire least = Check.made("shire wind 0 rot 0;folly a tower sound 0");
        int[] due = {0, 0, 1, 0, 0, 0, 0, 0, 0, 0, 0, 0};
        for (int what = 0; what <= 11; what++) {
            Check.due("size " + what + " of the least", least.size(what), due[what]);
        }
        Check.promise(54, "0 wind, 1 rot, 2 follies, 3 that send NOW, 4 hermits NOW, 5 estates, 6 veiled, 7 signed as told, "
            + "8 the year NOW, 9 ACTS that can be undone, 10 IMAGES, 11 bytes of THE TAPE.");
        int[] told = {30, 2, 3, 1, 1, 5, 1, 2, 0, 0, 0, 0};
        for (int what = 0; what <= 11; what++) {
            Check.due("size " + what, x.size(what), told[what]);
        }
        x.send(1, 0);
        x.hire(0);
        x.year();
        x.image();
        x.image();
        x.feed(0, 0, 0, 0, 0);
        int[] now = {30, 2, 3, 2, 0, 5, 1, 2, 1, 3, 2, 20};
        for (int what = 0; what <= 11; what++) {
            Check.due("size " + what + " NOW", x.size(what), now[what]);
        }
    }

    private static void trouble() {
        Check.promise(55, "TROUBLE.");
        FollyShire x = new FollyShire();
        Check.due("of a new object", x.trouble(), 0);
        x.served();
        Check.due("refused by 1", x.trouble(), 1);
        Check.due("it stays when told", x.trouble(), 1);
        x.shire(1);
        Check.due("refused by 2", x.trouble(), 2);
        Check.read(x, "?");
        Check.due("refused by 4", x.trouble(), 4);
        Check.read(x, SHIRE);
        Check.due("not refused", x.trouble(), 0);
        for (int i = 0; i < 4; i++) {
            x.image();
        }
        Check.due("refused by 3", x.trouble(), 3);
        x.mend(0);
        Check.due("refused by 5", x.trouble(), 5);
        x.undo();
        Check.due("refused by 6", x.trouble(), 6);
    }

    private static void numbersOfTrouble() {
        Check.term("TROUBLE of the latest call that may be refused (those of which a number is told here)");
        FollyShire x = Check.made(SHIRE);
        int[] numbers = {1, 2, 3, 4, 5, 6};
        for (int number : numbers) {
            refuse(x, number);
            Check.due("refused by " + number, x.trouble(), number);
            x.feed(0, 0, 0, 0, 0);
            x.fault();
            x.where();
            x.size(0);
            x.size(-1);
            x.led(0);
            Check.ledThrows(x, 9);
            Check.due("calls of which no number is told leave " + number, x.trouble(), number);
        }
        for (int i = 0; i < 45; i++) {
            x.feed(0, 0, 0, 0, 0);
        }
        Check.due("a feed too many leaves it, too", x.trouble(), 6);
        Check.term("0 it wasn't; 1 there is none such; 2 a number; 3 no room; 4 a FAULT; 5 not so; 6 there is none.");
        for (int number : numbers) {
            refuse(x, number);
            Check.due("refused by " + number + " again", x.trouble(), number);
            x.answers(2, true);
            Check.due("0 behind an answer of -2", x.trouble(), 0);
            refuse(x, number);
            x.hire(0);
            Check.due("0 behind an act", x.trouble(), 0);
            x.hire(0);
            refuse(x, number == 6 ? 5 : number);
            x.undo();
            Check.due("0 behind undoing", x.trouble(), 0);
            refuse(x, number);
            x.back(0);
            Check.due("0 behind going back", x.trouble(), 0);
        }
    }

    private static void constants() {
        Check.term("The constants: `NONE = -1`: There is none; refused.");
        Check.due("NONE", FollyShire.NONE, -1);
        FollyShire x = Check.made(SHIRE);
        Check.refused(x, "a refused call", x.answers(3, true), FollyShire.NONE, 1);
        Check.term("ANSWERS: 1 yes, 0 no, -2 nothing (lost).");
        Check.taken(x, "a hermit's", x.answers(0, true), 0);
        Check.taken(x, "an arch's to no", x.answers(1, false), 1);
        Check.taken(x, "a grotto's", x.answers(2, false), -2);
    }

    /** A call that is refused by this number. */
    private static void refuse(FollyShire x, int number) {
        switch (number) {
            case 1:
                x.folly(9, 9);
                break;
            case 2:
                x.plan(0);
                break;
            case 3:
                for (int i = 0; i < 4; i++) {
                    x.image();
                }
                break;
            case 4:
                x.shire(0);
                break;
            case 5:
                x.send(2, 2);
                break;
            default:
                for (int i = 0; i < 17; i++) {
                    x.undo();
                }
        }
    }

    private static void calls() {
        Check.term("An object is used for at most 512 calls after it has been made");
        String text = "shire wind 50 rot 1;folly a pyramid sound 99;estate p a debt 1";
        FollyShire x = Check.made(text);
        int made = (text.length() + 19) / 20 + 1;
        for (int i = made + 1; i <= 510; i++) {
            x.year();
        }
        int years = 510 - made;
        Check.due("the year by the 511th call", x.size(8), years);
        Check.due("a ruin by the 512th call", x.answers(0, true), -2);
        FollyShire y = new FollyShire();
        for (int i = 1; i <= 511; i++) {
            y.shire(-1);
        }
        Check.due("by the 512th call of no shire", y.trouble(), 2);
        FollyShire fed = new FollyShire();
        for (int i = 1; i <= 511; i++) {
            fed.feed(0, 0, 0, 0, 0);
        }
        Check.due("by the 512th call of a full tape", fed.size(11), 900);
    }
}
