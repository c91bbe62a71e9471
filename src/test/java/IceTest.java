/** Promises 41 to 44: ice. */
public final class IceTest {
    private static final int LEAST_INT = Integer.MIN_VALUE;
    private static final int GREATEST_INT = Integer.MAX_VALUE;
    private static final int[] WRONG_CELLS = {-1, 12, 13, LEAST_INT, GREATEST_INT};

    public static void main(String[] args) {
        promise41();
        promise42();
        promise42Flow();
        promise42EachFall();
        promise42EachAmount();
        promise42Weather();
        promise43();
        promise44();
        Expect.end("IceTest");
    }

    private static void cells(String what, GlacierBook x, int... due) {
        for (int cell = 0; cell < 12; cell++) {
            Expect.is(what + ": iceOf(" + cell + ")", x.iceOf(cell), cell < due.length ? due[cell] : 0);
        }
    }

    private static void promise41() {
        GlacierBook x = new GlacierBook();
        for (int cell : WRONG_CELLS) {
            Expect.noIndex("setCell(" + cell + ", 0, 0)", () -> x.setCell(cell, 0, 0));
            Expect.noIndex("setCell(" + cell + ", -1, 1000)", () -> x.setCell(cell, -1, 1000));
        }
        for (int wrong : new int[] {-1, 1000, LEAST_INT, GREATEST_INT}) {
            Expect.badNumber("setCell(0, " + wrong + ", 1)", () -> x.setCell(0, wrong, 1));
            Expect.badNumber("setCell(0, 1, " + wrong + ")", () -> x.setCell(0, 1, wrong));
        }
        Expect.is("setCell(0, 999, 0)", x.setCell(0, 999, 0), 0);
        Expect.is("setCell(0, 0, 999)", x.setCell(0, 0, 999), 0);
        Expect.is("setCell(0, 0, 5)", x.setCell(0, 0, 5), 999);
        Expect.is("setCell(11, 0, 1)", x.setCell(11, 0, 1), 0);
        cells("as set", x, 5, 0, 0, 0, 0, 0, 0, 0, 0, 0, 0, 1);
        x.setCell(11, 0, 999);
        for (int cell = 0; cell < 11; cell++) {
            x.setCell(cell, 999, 999);
        }
        x.flow(1, 0, 20, 0);
        Expect.is("any amount later", x.setCell(0, 0, 0), 1019);
    }

    private static void promise42() {
        GlacierBook x = new GlacierBook();
        for (int steps : new int[] {0, -1, 51, LEAST_INT, GREATEST_INT}) {
            Expect.badNumber("flow(" + steps + ", 0, 0, 0)", () -> x.flow(steps, 0, 0, 0));
        }
        for (int line : new int[] {-1, 2001, LEAST_INT, GREATEST_INT}) {
            Expect.badNumber("flow(1, " + line + ", 0, 0)", () -> x.flow(1, line, 0, 0));
        }
        for (int wrong : new int[] {-1, 21, LEAST_INT, GREATEST_INT}) {
            Expect.badNumber("flow(1, 0, " + wrong + ", 0)", () -> x.flow(1, 0, wrong, 0));
            Expect.badNumber("flow(1, 0, 0, " + wrong + ")", () -> x.flow(1, 0, 0, wrong));
        }
        Expect.is("actCount()", x.actCount(), 0);
        Expect.is("flow(50, 2000, 20, 20) without ice", x.flow(50, 2000, 20, 20), 0);
        Expect.is("flow(50, 0, 20, 20)", x.flow(50, 0, 20, 20), 12000);
        Expect.is("flow(1, 1000, 0, 0)", x.flow(1, 1000, 0, 0), 12000);
        Expect.is("flow(1, 1000, 1, 0), the line itself", x.flow(1, 1000, 1, 0), 12012);
        Expect.is("flow(1, 1002, 1, 2), below the line", x.flow(1, 1002, 1, 2), 11988);
        Expect.is("won()", x.won(), 11988);
    }

    private static void promise42Flow() {
        GlacierBook x = new GlacierBook();
        x.setCell(3, 0, 17);
        Expect.is("flow() to both sides", x.flow(1, 2000, 0, 0), 17);
        cells("to both sides", x, 0, 0, 4, 9, 4);
        x.flow(1, 2000, 0, 0);
        cells("all at once", x, 0, 1, 4, 7, 4, 1);
        GlacierBook y = new GlacierBook();
        y.setCell(0, 900, 9);
        y.flow(1, 2000, 0, 0);
        cells("not more than half of the ice", y, 5, 4);
        y.setCell(0, 0, 0);
        y.setCell(1, 900, 9);
        y.flow(1, 2000, 0, 0);
        cells("half of the ice to each side", y, 4, 1, 4);
        GlacierBook z = new GlacierBook();
        z.setCell(11, 0, 7);
        z.setCell(10, 3, 0);
        z.flow(1, 2000, 0, 0);
        cells("a fall of 4 at the end", z, 0, 0, 0, 0, 0, 0, 0, 0, 0, 0, 1, 6);
        z.flow(1, 2000, 0, 0);
        cells("falls of 2 and of 4", z, 0, 0, 0, 0, 0, 0, 0, 0, 0, 0, 1, 6);
        GlacierBook w = new GlacierBook();
        w.setCell(0, 500, 0);
        w.setCell(1, 0, 100);
        w.flow(1, 2000, 0, 0);
        cells("no ice runs from a bare cell or up to it", w, 0, 75, 25);
        GlacierBook v = new GlacierBook();
        v.setCell(5, 999, 999);
        Expect.is("50 steps keep all ice", v.flow(50, 2000, 0, 0), 999);
        GlacierBook one = new GlacierBook();
        one.setCell(5, 999, 999);
        for (int step = 0; step < 50; step++) {
            one.flow(1, 2000, 0, 0);
        }
        for (int cell = 0; cell < 12; cell++) {
            Expect.is("50 steps at once or one by one", v.iceOf(cell), one.iceOf(cell));
        }
    }

    /** A quarter of the fall, rounded down; nothing runs to a surface that is not lower. */
    private static void promise42EachFall() {
        for (int fall = -5; fall <= 40; fall++) {
            for (int side = -1; side <= 1; side += 2) {
                GlacierBook x = new GlacierBook();
                x.setCell(5, 100 + fall, 400);
                x.setCell(5 + side, 500, 0);
                x.setCell(5 - side, 999, 0);
                Expect.is("flow()", x.flow(1, 0, 0, 0), 400);
                int due = fall < 0 ? 0 : fall / 4;
                Expect.is("ice behind a fall of " + fall, x.iceOf(5), 400 - due);
                Expect.is("ice below a fall of " + fall, x.iceOf(5 + side), due);
            }
        }
    }

    /** Not more than half of the ice, rounded down, to each side: so no cell ever has less than none. */
    private static void promise42EachAmount() {
        for (int ice = 0; ice <= 12; ice++) {
            GlacierBook x = new GlacierBook();
            x.setCell(5, 900, ice);
            x.flow(1, 2000, 0, 0);
            Expect.is("ice of " + ice + " that runs to both sides", x.iceOf(5), ice % 2);
            Expect.is("half of " + ice + " below", x.iceOf(4), ice / 2);
            Expect.is("half of " + ice + " below", x.iceOf(6), ice / 2);
            GlacierBook y = new GlacierBook();
            y.setCell(11, 900, ice);
            y.flow(1, 2000, 0, 0);
            Expect.is("ice of " + ice + " at the end", y.iceOf(11), ice - ice / 2);
            Expect.is("ice of " + ice + " does not run round", y.iceOf(0), 0);
        }
    }

    private static void promise42Weather() {
        GlacierBook x = new GlacierBook();
        x.setCell(0, 100, 3);
        x.setCell(1, 102, 0);
        x.setCell(2, 103, 0);
        x.setCell(3, 100, 1);
        x.setCell(11, 0, 3);
        Expect.is("flow(1, 103, 5, 2)", x.flow(1, 103, 5, 2), 8 + 5 + 1);
        cells("snow on the line, melt below it", x, 8, 0, 5, 0, 0, 0, 0, 0, 0, 0, 0, 1);
        GlacierBook y = new GlacierBook();
        y.setCell(0, 0, 8);
        Expect.is("flow(1, 7, 20, 0)", y.flow(1, 7, 20, 0), 8);
        cells("the surface behind the flow is looked at", y, 6, 2);
        Expect.is("flow(1, 5, 20, 1)", y.flow(1, 5, 20, 1), 27);
        cells("a surface that fell to the line", y, 5 + 20, 3 - 1);
    }

    private static void promise43() {
        GlacierBook x = new GlacierBook();
        for (int cell : WRONG_CELLS) {
            Expect.noIndex("iceOf(" + cell + ")", () -> x.iceOf(cell));
        }
        for (int cell = 0; cell < 12; cell++) {
            x.setCell(cell, 3, 10 + cell);
        }
        cells("as set", x, 10, 11, 12, 13, 14, 15, 16, 17, 18, 19, 20, 21);
    }

    private static void promise44() {
        GlacierBook x = new GlacierBook();
        Expect.is("won() at first", x.won(), 0);
        x.setCell(3, 0, 17);
        Expect.is("won() of what was set", x.won(), 0);
        Expect.is("flow(1, 100, 1, 2)", x.flow(1, 100, 1, 2), 11);
        cells("behind it", x, 0, 0, 2, 7, 2);
        Expect.is("won() by melt", x.won(), -6);
        Expect.is("flow(1, 0, 1, 2)", x.flow(1, 0, 1, 2), 23);
        Expect.is("won() by snow", x.won(), 6);
        Expect.is("flow(50, 2000, 0, 20)", x.flow(50, 2000, 0, 20), 0);
        Expect.is("won(), not more than there was", x.won(), -17);
        x.undo();
        Expect.is("won() behind undo()", x.won(), 6);
    }
}
