/** Yards that the tests begin with. */
final class Yards {
    private Yards() {
    }

    /** Its hall, its crane and its welder 0 refuse nothing and fail in nothing. */
    static Yard eager() {
        Yard yard = new Yard();
        yard.hall(12, 1000);
        yard.crane(0, 1000);
        yard.welder(0, 0);
        return yard;
    }

    /** All 36 cells are filled by three blocks of so many tons. */
    static Yard full(int low, int middle, int high) {
        Yard yard = eager();
        int[] tons = {low, middle, high};
        for (int level = 0; level < 3; level++) {
            yard.erect(yard.block(0, 11, level, tons[level], 0, 8), 0);
        }
        return yard;
    }

    /** Two rows of rooms stand. */
    static Yard twoRows() {
        Yard yard = eager();
        for (int level = 0; level < 2; level++) {
            yard.erect(yard.block(0, 11, level, 10, 0, 8), 0);
        }
        return yard;
    }

    static Yard afloat() {
        Yard yard = full(10, 10, 10);
        yard.launch(0);
        return yard;
    }

    /** Afloat, with loose blocks at the frames 4 and 5 of a level. */
    static Yard afloatWithLoose(int level) {
        Yard yard = full(10, 10, 10);
        yard.block(4, 4, level, 5, 0, 1);
        yard.block(5, 5, level, 5, 0, 1);
        yard.launch(0);
        return yard;
    }

    /** Block 2 is joined from two single ones, with flaws of its welder 1 and with x told before. */
    static Yard withFlaw(int first, int flaws) {
        Yard yard = new Yard();
        yard.block(first, first, 0, 1, 0, 1);
        yard.block(first + 1, first + 1, 0, 1, 0, 1);
        yard.welder(0, 0);
        yard.welder(1, flaws);
        yard.join(0, 1, 1);
        return yard;
    }

    /**
     * Blocks 0 and 1 stand at the frames 0 and 11, and the last block, joined of ten, is longer by an excess
     * (-19 to 101) than the 9992 millimetres that are between them.
     */
    static Yard spanned(int excess) {
        Yard yard = eager();
        yard.erect(yard.block(0, 0, 0, 1, 0, 8), 0);
        yard.erect(yard.block(11, 11, 0, 1, 0, 8), 0);
        // Nine joins take 27 of 10000.
        int more = 9992 + excess - 9973;
        int whole = yard.block(1, 1, 0, 1, Math.min(60, more), 8);
        more -= Math.min(60, more);
        for (int frame = 2; frame <= 10; frame++) {
            whole = yard.join(whole, yard.block(frame, frame, 0, 1, Math.min(60, more), 8), 0);
            more -= Math.min(60, more);
        }
        return yard;
    }
}
