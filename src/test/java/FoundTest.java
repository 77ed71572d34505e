/** Promises 25 to 28: finds, forget, who, strangers. */
public final class FoundTest {
    private static final Check CHECK = new Check();

    public static void main(String[] args) {
        finds();
        forget();
        who();
        strangers();
        strangersWithin();
        CHECK.end();
    }

    private static void finds() {
        TwoPrints p = Check.told("l10;");
        CHECK.due("25 finds(-1)", p.finds(-1), TwoPrints.BAD);
        CHECK.due("25 finds(11)", p.finds(11), TwoPrints.BAD);
        CHECK.due("25 nothing yet", p.count(4), 0);
        for (int n = 1; n <= 6; n++) {
            CHECK.due("25 finds, the " + n + "th", p.finds(n < 4 ? 10 : 0), n);
        }
        CHECK.due("25 the 7th", p.finds(1), TwoPrints.FULL);
        CHECK.due("25 BAD ahead of FULL", p.finds(11), TwoPrints.BAD);
        CHECK.due("25 six", p.count(4), 6);
        CHECK.due("25 what was refused was not found", p.strangers(1), 2);
    }

    private static void forget() {
        TwoPrints p = new TwoPrints();
        CHECK.due("26 nothing", p.forget(), 0);
        p.finds(1);
        p.finds(1);
        CHECK.due("26 who", p.who(), 0);
        CHECK.due("26 two", p.forget(), 2);
        CHECK.due("26 none is left", p.count(4), 0);
        CHECK.due("26 all again", p.who(), 15);
        CHECK.due("26 from one on", p.finds(3), 1);
    }

    private static void who() {
        // 0: 1 5 9; 1: 0 2 4 6 8 10; 0 limping: 1 5 8; 1 limping: 0 2 3 5 6 8 9
        TwoPrints p = Check.told("l10;w0 1 4 1;w1 0 2 1;");
        CHECK.due("27 all", p.who(), 15);
        p.finds(8);
        CHECK.due("27 one has it not", p.who(), 2 | 4 | 8);
        p.finds(5);
        CHECK.due("27 who limped", p.who(), 4 | 8);
        p.finds(8);
        CHECK.due("27 the same", p.who(), 4 | 8);
        p.finds(1);
        CHECK.due("27 0 limped", p.who(), 4);
        p.snows();
        p.undo();
        CHECK.due("27 snow does not matter", p.who(), 4);
        p.finds(0);
        CHECK.due("27 nobody", p.who(), 0);
        TwoPrints none = Check.told("l5;w0 9 2 1;");
        CHECK.due("27 nothing FOUND: tracks without feet have it all", none.who(), 15);
        none.finds(0);
        CHECK.due("27 now they have not", none.who(), 10);
    }

    private static void strangers() {
        TwoPrints p = Check.told("l60;");
        CHECK.due("28 all", p.strangers(0), 80);
        CHECK.due("28 the first", p.strangers(1), 2);
        p.finds(59);
        // 59 less START: 59 58 57 56 55 54 53 52 51 50; strides 2 .. 9 that divide: 0 1 1 4 1 4 0 2 1 2
        CHECK.due("28 with 59", p.strangers(0), 16);
        CHECK.due("28 the first", p.strangers(1), 12);
        p.finds(9);
        // strides that divide 50: 2, 5; START 1 3 5 7 9 and 4 9
        CHECK.due("28 with 9 and 59", p.strangers(0), 7);
        CHECK.due("28 the first", p.strangers(1), 12);
        p.finds(4);
        CHECK.due("28 with 4", p.strangers(0), 1);
        CHECK.due("28 the first", p.strangers(1), 45);
        p.finds(0);
        CHECK.due("28 none", p.strangers(0), 0);
        CHECK.due("28 none", p.strangers(1), TwoPrints.NONE);
        CHECK.due("28 strangers(-1)", p.strangers(-1), TwoPrints.BAD);
        CHECK.due("28 strangers(2)", p.strangers(2), TwoPrints.BAD);
    }

    private static void strangersWithin() {
        TwoPrints p = Check.told("l5;");
        p.finds(0);
        CHECK.due("28 START 0, any STRIDE", p.strangers(0), 8);
        p.finds(5);
        CHECK.due("28 by 5", p.strangers(0), 1);
        CHECK.due("28 by 5", p.strangers(1), 5);
        CHECK.due("28 forgotten", p.forget(), 2);
        CHECK.due("28 also those behind the end", p.strangers(0), 80);
    }
}
