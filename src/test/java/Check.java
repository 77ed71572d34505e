/** What the project's tests share: answers are compared, wrong ones printed and counted. */
final class Check {
    private int asked;
    private int wrong;

    void due(String what, long got, long want) {
        asked++;
        if (got != want) {
            wrong++;
            System.out.println(what + " answered " + got + ", due is " + want);
        }
    }

    void holds(String what, boolean truth) {
        due(what, truth ? 1 : 0, 1);
    }

    /** Prints how it went, and ends the program with 1 if an answer was wrong. */
    void end() {
        System.out.println(asked + " answers, " + wrong + " wrong");
        if (wrong != 0) {
            System.exit(1);
        }
    }

    static void types(TwoPrints prints, String text) {
        for (int i = 0; i < text.length(); i++) {
            prints.type(text.charAt(i));
        }
    }

    /** A new object with a path that must be without fault. */
    static TwoPrints told(String text) {
        TwoPrints prints = new TwoPrints();
        types(prints, text);
        int items = prints.path();
        if (items < 0) {
            throw new IllegalStateException("fault " + items + " in " + text);
        }
        return prints;
    }

    /** What path() answers to a text on a new object. */
    static int read(String text) {
        TwoPrints prints = new TwoPrints();
        types(prints, text);
        return prints.path();
    }
}
