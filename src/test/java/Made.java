/** Objects that the tests begin with. */
final class Made {
    /** 16 items in 120 letters: as many of either as a text can have. */
    static final String LONGEST = "l9;b8;p7;t6;" + "w0 1 2 3;".repeat(11) + "w1 4 5 6;";

    private Made() {
    }

    static TwoPrints anew() {
        return new TwoPrints();
    }

    /** With prints, gifts, walks, something taken, found and kept, something to undo, and a text that lacks its end. */
    static TwoPrints worn(int length) {
        TwoPrints p = Check.told("l" + length + ";w0 0 2 3;w1 0 3 4;b3;p4;t5;");
        p.walks(0, 0);
        p.walks(1, 0);
        p.gives(0, 0);
        p.gives(0, 3);
        p.gives(1, 2);
        p.walks(1, 0);
        p.keep(0);
        p.gives(0, 3);
        p.rains(4);
        p.walks(0, 1);
        p.gives(1, 4);
        p.keep(1);
        p.rains(1);
        p.finds(0);
        p.finds(3);
        p.rate(5, 1);
        Check.types(p, "t7;b2");
        return p;
    }

    /** Nothing more can be typed, nothing more found, and older ones are lost already. */
    static TwoPrints full() {
        TwoPrints p = worn(10);
        for (int i = 0; i < 4; i++) {
            p.finds(0);
        }
        p.cows(9);
        p.clear();
        Check.types(p, LONGEST);
        return p;
    }
}
