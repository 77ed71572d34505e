import java.util.ArrayList;
import java.util.List;
import java.util.function.Supplier;

/**
 * All that an object answers, also what only further calls bring to light: what can be undone, what the images hold,
 * how THE TEXT reads. Each look is taken at an object made anew, so that none of them has more than 512 calls.
 */
final class Whole {
    private final Supplier<TwoPrints> making;
    private final List<String> lines = new ArrayList<>();
    private String look = "";

    private Whole(Supplier<TwoPrints> making) {
        this.making = making;
    }

    /** Two ways of making an object must not differ in anything that can be asked. */
    static void same(Check check, String what, Supplier<TwoPrints> got, Supplier<TwoPrints> want) {
        List<String> gotLines = of(got);
        List<String> wantLines = of(want);
        String differs = "";
        for (int i = 0; i < wantLines.size() && differs.isEmpty(); i++) {
            String line = i < gotLines.size() ? gotLines.get(i) : "nothing";
            differs = line.equals(wantLines.get(i)) ? "" : line + ", due is " + wantLines.get(i);
        }
        check.holds(what + ": " + differs, differs.isEmpty() && gotLines.size() == wantLines.size());
    }

    static List<String> of(Supplier<TwoPrints> making) {
        Whole whole = new Whole(making);
        whole.standing();
        whole.undone();
        whole.images();
        whole.text();
        return whole.lines;
    }

    /** All that can be undone, in figures. */
    static String undoable(TwoPrints p) {
        StringBuilder all = new StringBuilder();
        for (int k = 0; k < 2; k++) {
            for (int what = 3; what <= 6; what++) {
                all.append(p.walker(k, what)).append(' ');
            }
            for (int x = 0; x <= p.count(0); x++) {
                all.append(p.depth(k, x)).append(p.gift(k, x));
            }
        }
        return all.toString();
    }

    private TwoPrints lookAt(String name) {
        look = name;
        return making.get();
    }

    private void line(String call, long answer) {
        lines.add(look + call + " = " + answer);
    }

    private void standing() {
        prints(lookAt("now: "));
        told(lookAt("now: "));
        asked(lookAt("now: "));
    }

    private void prints(TwoPrints p) {
        for (int k = 0; k < 2; k++) {
            for (int what = 3; what <= 6; what++) {
                line("walker(" + k + ", " + what + ")", p.walker(k, what));
            }
            for (int x = 0; x <= p.count(0); x++) {
                line("depth(" + k + ", " + x + ")", p.depth(k, x));
                line("gift(" + k + ", " + x + ")", p.gift(k, x));
            }
        }
        for (int what = 0; what <= 3; what++) {
            line("now(" + what + ")", p.now(what));
        }
    }

    private void told(TwoPrints p) {
        for (int what = 0; what <= 5; what++) {
            line("count(" + what + ")", p.count(what));
        }
        for (int k = 0; k < 2; k++) {
            for (int what = 0; what < 3; what++) {
                line("walker(" + k + ", " + what + ")", p.walker(k, what));
            }
        }
        for (int x = 0; x <= p.count(0); x++) {
            line("whose(" + x + ")", p.whose(x));
        }
        line("who()", p.who());
        line("strangers(0)", p.strangers(0));
        line("strangers(1)", p.strangers(1));
        line("trace()", p.trace());
    }

    private void asked(TwoPrints p) {
        for (int k = -1; k <= 3; k++) {
            line("both(" + k + ")", p.both(k));
        }
        for (int a = 0; a < 4; a++) {
            line("tells(0, " + a + ")", p.tells(0, a));
            line("tells(1, " + a + ")", p.tells(1, a));
        }
        for (int n = 0; n <= 9; n++) {
            line("left(0, " + n + ")", p.left(0, n));
            line("left(1, " + n + ")", p.left(1, n));
        }
        for (int d = 0; d <= 12; d += 3) {
            line("jumps(" + d + ", 0)", p.jumps(d, 0));
            line("jumps(" + d + ", 1)", p.jumps(d, 1));
            for (int k = -2; k <= 3; k++) {
                line("child(" + d + ", " + k + ")", p.child(d, k));
            }
        }
        for (int k = 0; k < 2; k++) {
            for (int what = 0; what <= 2; what++) {
                line("go(" + k + ", 50, 99, " + what + ")", p.go(k, 50, 99, what));
            }
            line("odds(" + k + ", 5, 2, 0)", p.odds(k, 5, 2, 0));
            line("odds(" + k + ", 5, 2, 1)", p.odds(k, 5, 2, 1));
            line("onePath(5, 3, " + k + ")", p.onePath(5, 3, k));
        }
        // rate() comes last, as it changes THE TRACE
        for (int kind = 0; kind <= 5; kind++) {
            line("rate(" + kind + ", 4)", p.rate(kind, 4));
        }
        line("trace()", p.trace());
    }

    /** One more than are known, so that none is hidden. */
    private void undone() {
        for (int many = 1; many <= 9; many++) {
            TwoPrints p = lookAt("undone " + many + " times: ");
            int answer = 0;
            for (int i = 0; i < many; i++) {
                answer = p.undo();
            }
            line("undo()", answer);
            prints(p);
        }
    }

    private void images() {
        for (int image = 0; image < 2; image++) {
            TwoPrints p = lookAt("image " + image + ": ");
            line("back()", p.back(image));
            prints(p);
        }
    }

    private void text() {
        TwoPrints asItIs = lookAt("read: ");
        line("path()", asItIs.path());
        told(asItIs);
        TwoPrints ended = lookAt("read with a ; more: ");
        line("type(';')", ended.type(';'));
        line("path()", ended.path());
        told(ended);
    }
}
