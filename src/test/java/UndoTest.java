/** Promises 48 and 49: undo. */
public final class UndoTest {
    /** An act on a book. */
    private interface Act {
        int on(GlacierBook x);
    }

    // As these have undone an act, there is room to remember one more.
    private static final Books.Maker RICH = Books::richWithoutText;
    private static final Books.Maker BOOK = RICH.and("undo()");
    private static final Books.Maker FULL = Books::fullWithoutText;
    private static final Books.Maker FULL_BOOK = FULL.and("undo()");
    private static final Books.Maker NEW_BOOK = GlacierBook::new;

    public static void main(String[] args) {
        promise48EachAct();
        promise48EachLine();
        promise48WithoutEffect();
        promise48EightAtMost();
        promise48TextAndRing();
        promise48NoneRemembered();
        promise49();
        Expect.end("UndoTest");
    }

    private static void undone(Books.Maker made, String told) {
        Books.Maker acted = made.and(told);
        Expect.is(told + " changes something", Books.differ(acted, made, Books.ACTS, Books.PAST), true);
        undoneAct(told, made, acted);
        Books.Maker again = acted.and("undo()", told);
        Books.alike(told + " done, undone and done again", again, acted);
    }

    /** Behind undo() all is as it was before the act: also what is remembered, and what undo() brings then. */
    private static void undoneAct(String what, Books.Maker before, Books.Maker acted) {
        GlacierBook x = acted.make();
        Expect.is("actCount() behind " + what, x.actCount(), before.make().actCount() + 1);
        Expect.is("undo() of " + what, x.undo(), before.make().actCount());
        Books.alike("behind undo() of " + what, acted.and("undo()"), before);
    }

    private static void promise48EachAct() {
        for (String told : new String[] {"addLayer()", "least(1, 0, 11)", "most(2, 1, 19)", "takeBack(0)",
            "takeBack(3)", "layOn(2, 5)", "takeOff(1, 2)", "takeOff(1, 4)", "addBand(0, 2, 2)", "addBand(1, 2, 2)",
            "setPrices(6, 1, 4)", "setPrices(5, 0, 4)", "setPrices(5, 1, 3)", "tie(2, 3)", "untie(1, 2)",
            "untie(0, 1)", "setDate(0, 0, 99)", "setDate(1, 3, 300)", "noDate(1, 2)", "setZone(4, 2, 0)",
            "setZone(4, 1, 1)", "read(7, 4, 3)", "read(3, 4, -7)", "read(7, 8, 0)", "noReading(3, 4)",
            "noReading(0, 9)", "setCell(2, 10, 51)", "setCell(2, 900, 50)", "flow(3, 20, 3, 2)"}) {
            undone(BOOK, told);
        }
        for (String told : new String[] {"takeBack(49)", "takeBack(0)", "takeOff(15, 16)", "setPrices(20, 20, 20)",
            "untie(1, 15)", "setDate(0, 15, 99999)", "setDate(1, 15, 99999)", "noDate(0, 15)", "setZone(7, 1, 0)",
            "read(7, 9, -999)", "noReading(7, 0)", "setCell(11, 0, 0)", "flow(50, 2000, 20, 20)"}) {
            undone(FULL_BOOK, told);
        }
        for (String told : new String[] {"addLayer()", "addBand(0, 9, 3)", "addBand(1, 9, 3)", "setPrices(0, 0, 0)",
            "setZone(0, 2, 3)", "read(0, 0, 0)", "setCell(0, 1, 1)", "flow(1, 0, 1, 1)"}) {
            undone(NEW_BOOK, told);
        }
    }

    /** doLine() is one act with what it does; the text of the line is not brought back. */
    private static void promise48EachLine() {
        for (String line : new String[] {"layer", "least 1 0 11", "most 2 1 19", "on 2 5", "on 1 2", "band 1 2 2",
            "date 0 0 99"}) {
            Books.Maker acted = BOOK.andTry(x -> {
                Books.type(x, line);
                return x.doLine();
            });
            boolean changes = !line.equals("on 1 2");
            Expect.is(line + " changes something", Books.differ(acted, BOOK, Books.ACTS, Books.PAST), changes);
            undoneAct(line, BOOK, acted);
        }
    }

    /** An act is remembered even if nothing is different by it. */
    private static void promise48WithoutEffect() {
        for (String told : new String[] {"layOn(1, 2)", "setPrices(5, 1, 4)", "setDate(0, 0, 100)",
            "setZone(1, 5, 2)", "read(3, 4, -6)", "setCell(11, 0, 0)", "flow(50, 2000, 0, 0)"}) {
            Books.Maker made = told.startsWith("flow") ? NEW_BOOK.and("read(1, 1, 1)") : BOOK;
            Books.Maker acted = made.and(told);
            Expect.is(told + " changes something", Books.differ(acted, made, Books.ACTS, Books.PAST), false);
            undoneAct(told, made, acted);
        }
        GlacierBook x = BOOK.make();
        x.addLayer();
        x.layOn(1, 2);
        Expect.is("actCount()", x.actCount(), 8);
        Expect.is("undo() of what is no different", x.undo(), 7);
        Expect.is("layerCount() with the act before", x.layerCount(), 6);
        Expect.is("undo() of addLayer()", x.undo(), 6);
        Expect.is("layerCount()", x.layerCount(), 5);
    }

    private static void promise48EightAtMost() {
        GlacierBook x = new GlacierBook();
        for (int value = 1; value <= 20; value++) {
            x.read(0, 0, value);
        }
        for (int left = 7; left >= 0; left--) {
            Expect.is("undo()", x.undo(), left);
            Expect.is("valueOf(0, 0)", x.valueOf(0, 0), 12 + left);
        }
        Expect.badState("undo() of the ninth one", x::undo);
        Expect.is("valueOf(0, 0) as before", x.valueOf(0, 0), 12);
        x.read(0, 0, 50);
        x.read(0, 0, 51);
        Expect.is("undo() among new ones", x.undo(), 1);
        Expect.is("valueOf(0, 0)", x.valueOf(0, 0), 50);
        x.read(0, 0, 52);
        Expect.is("undo() behind undo()", x.undo(), 1);
        Expect.is("undo() behind undo()", x.undo(), 0);
        Expect.is("valueOf(0, 0)", x.valueOf(0, 0), 12);
    }

    private static void promise48TextAndRing() {
        GlacierBook x = Books.layers(1);
        x.most(1, 0, 5);
        x.addLayer();
        x.type('o');
        Expect.badState("least(1, 0, 6)", () -> x.least(1, 0, 6));
        x.type('n');
        Expect.is("undo()", x.undo(), 2);
        Expect.is("the text stays", x.type(0L), 2);
        Expect.is("fault() of 'on'", x.fault(), 1);
        Expect.is("the ring stays", x.ringLength(), 2);
        Expect.is("ringAt(1)", x.ringAt(1), 0);
        Expect.is("undo() of the bound", x.undo(), 1);
        Expect.is("the ring stays", x.ringAt(1), 0);
        Expect.badNumber("doLine() of 'on'", x::doLine);
        Books.type(x, "layer");
        x.doLine();
        x.type('q');
        x.undo();
        Expect.is("the text of a line is not brought back", x.type(0L), 1);
        GlacierBook y = Books.layers(2);
        y.least(1, 0, 1);
        y.undo();
        Expect.is("numbers of bounds are brought back", y.least(2, 0, 1), 0);
    }

    private static void promise48NoneRemembered() {
        GlacierBook x = new GlacierBook();
        Expect.badState("undo() at first", x::undo);
        Expect.badNumber("a call that throws", () -> x.setPrices(21, 0, 0));
        Expect.badState("undo() behind a call that threw", x::undo);
        x.won();
        x.leastPrice();
        x.type('a');
        x.fault();
        Expect.badState("undo() behind calls that are no acts", x::undo);
        Expect.badNumber("doLine() with a fault", x::doLine);
        Expect.badState("undo() behind it", x::undo);
        Expect.is("addLayer()", x.addLayer(), 1);
        Expect.is("undo()", x.undo(), 0);
        Expect.badState("undo() again", x::undo);
    }

    private static void promise49() {
        Expect.is("actCount() at first", new GlacierBook().actCount(), 0);
        Act[] acts = {GlacierBook::addLayer, y -> y.least(1, 0, 1), y -> y.most(1, 0, 1), y -> y.takeBack(0),
            GlacierBook::addLayer, y -> y.layOn(1, 2), y -> y.takeOff(1, 2), y -> y.addBand(0, 1, 0),
            y -> y.addBand(1, 1, 0), y -> y.setPrices(4, 2, 3), y -> y.tie(0, 0), y -> y.untie(0, 0),
            y -> y.setDate(0, 0, 1), y -> y.noDate(0, 0), y -> y.setZone(0, 1, 0), y -> y.read(0, 0, 1),
            y -> y.noReading(0, 0), y -> y.setCell(0, 0, 0), y -> y.flow(1, 0, 0, 0)};
        for (int last = 0; last < acts.length; last++) {
            GlacierBook x = new GlacierBook();
            for (int i = 0; i <= last; i++) {
                acts[i].on(x);
            }
            int due = Math.min(last + 1, 8);
            Expect.is("actCount() behind the act " + last, x.actCount(), due);
            Expect.is("undo() of the act " + last, x.undo(), due - 1);
            Expect.is("actCount() behind undo() of the act " + last, x.actCount(), due - 1);
        }
        GlacierBook z = new GlacierBook();
        for (int i = 1; i <= 12; i++) {
            z.setCell(0, i, i);
            Expect.is("actCount()", z.actCount(), Math.min(i, 8));
        }
        Books.type(z, "layer");
        Expect.is("actCount() behind type()", z.actCount(), 8);
        z.undo();
        z.undo();
        Expect.is("actCount() behind undo()", z.actCount(), 6);
        z.doLine();
        Expect.is("actCount() behind doLine()", z.actCount(), 7);
        Expect.noIndex("iceOf(12)", () -> z.iceOf(12));
        Expect.badNumber("setCell(0, 0, 1000)", () -> z.setCell(0, 0, 1000));
        Expect.is("actCount() behind calls that threw", z.actCount(), 7);
    }
}
