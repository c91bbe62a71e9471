import java.util.ArrayList;
import java.util.List;

/** Promises 48 and 49: undo. */
public final class UndoTest {
    /** An act on a book. */
    private interface Act {
        int on(GlacierBook x);
    }

    public static void main(String[] args) {
        promise48EachAct();
        promise48WithoutEffect();
        promise48EightAtMost();
        promise48TextAndRing();
        promise48NoneRemembered();
        promise49();
        Expect.end("UndoTest");
    }

    /** Makes a book in which each act can be done. */
    private static GlacierBook book() {
        GlacierBook x = AgesTest.withLayers(5);
        x.least(1, 0, 10);
        x.most(2, 1, 20);
        x.layOn(1, 2);
        for (int band = 0; band < 3; band++) {
            x.addBand(0, 3 + band, band);
            x.addBand(1, 4 + band, 1);
        }
        x.tie(0, 1);
        x.setDate(0, 0, 100);
        x.setDate(1, 2, 300);
        x.setZone(1, 5, 2);
        x.read(3, 4, -6);
        x.read(5, 4, 8);
        x.setCell(2, 10, 50);
        x.flow(1, 20, 3, 2);
        return x;
    }

    /** All answers that undo brings back. */
    private static List<Object> look(GlacierBook x) {
        List<Object> all = new ArrayList<>(List.of(x.layerCount(), x.boundCount(), x.lineCount(),
                x.orders(), x.bandCount(0), x.bandCount(1), x.leastPrice(), x.bestWays(), x.won(),
                x.aboveShare(), x.errors()));
        for (int a = 0; a <= x.layerCount(); a++) {
            for (int b = 0; b <= x.layerCount(); b++) {
                int first = a;
                int second = b;
                all.add(answer(() -> x.low(first, second)));
                all.add(answer(() -> x.isAbove(first, second)));
                all.add(answer(() -> x.phase(first)));
            }
        }
        for (int row = 0; row < 2; row++) {
            for (int band = 0; band < x.bandCount(row); band++) {
                int r = row;
                int b = band;
                all.add(x.partner(row, band));
                all.add(answer(() -> x.ageOf(r, b)));
            }
        }
        for (int bound = 0; bound < 5; bound++) {
            int b = bound;
            all.add(answer(() -> x.follows(b)));
        }
        for (int zone = 0; zone < 8; zone++) {
            int z = zone;
            all.add(answer(() -> x.valueOf(z, 4)));
            all.add(answer(() -> x.reason(z, 4)));
        }
        for (int part = 0; part < 4; part++) {
            int p = part;
            all.add(answer(() -> x.partBalance(p, 4)));
            all.add(answer(() -> x.partBalance(p, 9)));
        }
        for (int cell = 0; cell < 12; cell++) {
            all.add(x.iceOf(cell));
        }
        return all;
    }

    private static Object answer(Expect.Call call) {
        try {
            return call.answer();
        } catch (RuntimeException e) {
            return e.getClass();
        }
    }

    private static void undone(String what, Act act) {
        GlacierBook x = book();
        List<Object> before = look(x);
        act.on(x);
        Expect.is(what + " changes something", look(x).equals(before), false);
        Expect.is("undo() of " + what, x.undo(), 7);
        Expect.is("behind undo() of " + what, look(x), before);
        Expect.is(what + " once more", answer(() -> act.on(x)), answer(() -> act.on(book())));
    }

    private static void promise48EachAct() {
        undone("addLayer()", GlacierBook::addLayer);
        undone("least()", x -> x.least(1, 0, 11));
        undone("most()", x -> x.most(2, 1, 19));
        undone("takeBack()", x -> x.takeBack(0));
        undone("layOn()", x -> x.layOn(2, 5));
        undone("takeOff()", x -> x.takeOff(1, 2));
        undone("addBand()", x -> x.addBand(1, 2, 2));
        undone("setPrices(), missed", x -> x.setPrices(5, 2, 3));
        undone("setPrices(), double", x -> x.setPrices(4, 0, 3));
        undone("setPrices(), marks", x -> x.setPrices(4, 2, 0));
        undone("tie()", x -> x.tie(2, 2));
        undone("untie()", x -> x.untie(1, 1));
        undone("setDate()", x -> x.setDate(0, 0, 99));
        undone("noDate()", x -> x.noDate(1, 2));
        undone("setZone(), its area", x -> x.setZone(4, 2, 0));
        undone("setZone(), its part", x -> x.setZone(4, 1, 1));
        undone("read()", x -> x.read(7, 4, 3));
        undone("read() of another year", x -> x.read(7, 9, 3));
        undone("noReading()", x -> x.noReading(3, 4));
        undone("setCell(), its ice", x -> x.setCell(2, 10, 51));
        undone("flow()", x -> x.flow(3, 20, 3, 2));
        undone("doLine()", x -> {
            LinesTest.type(x, "layer");
            return x.doLine();
        });
        GlacierBook y = book();
        y.setCell(3, 500, 0);
        y.undo();
        y.flow(2, 30, 3, 2);
        GlacierBook z = book();
        z.flow(2, 30, 3, 2);
        Expect.is("undo() of setCell(), its bed", look(y), look(z));
    }

    private static void promise48WithoutEffect() {
        GlacierBook x = book();
        List<Object> before = look(x);
        x.layOn(1, 2);
        x.setPrices(4, 2, 3);
        x.setDate(0, 0, 100);
        x.setZone(1, 5, 2);
        x.read(3, 4, -6);
        x.setCell(11, 0, 0);
        Expect.is("acts without effect", look(x), before);
        x.addLayer();
        x.layOn(1, 2);
        Expect.is("undo() of what is no different", x.undo(), 7);
        Expect.is("layerCount() with the act before", x.layerCount(), 6);
        Expect.is("undo() of addLayer()", x.undo(), 6);
        Expect.is("layerCount()", x.layerCount(), 5);
        for (int left = 5; left >= 0; left--) {
            Expect.is("undo() of what is no different", x.undo(), left);
            Expect.is("all as before", look(x), before);
        }
    }

    private static void promise48EightAtMost() {
        GlacierBook x = new GlacierBook();
        for (int value = 1; value <= 20; value++) {
            x.read(0, 0, value);
        }
        for (int left = 7; left >= 0; left--) {
            Expect.is("undo()", x.undo(), left);
            Expect.is("valueOf(0, 0)", x.valueOf(0, 0), 12 + left);
        }
        Expect.badState("undo() of the ninth one", x::undo);
        Expect.is("valueOf(0, 0) as before", x.valueOf(0, 0), 12);
        x.read(0, 0, 50);
        x.read(0, 0, 51);
        Expect.is("undo() among new ones", x.undo(), 1);
        Expect.is("valueOf(0, 0)", x.valueOf(0, 0), 50);
        x.read(0, 0, 52);
        Expect.is("undo() behind undo()", x.undo(), 1);
        Expect.is("undo() behind undo()", x.undo(), 0);
        Expect.is("valueOf(0, 0)", x.valueOf(0, 0), 12);
    }

    private static void promise48TextAndRing() {
        GlacierBook x = AgesTest.withLayers(1);
        x.most(1, 0, 5);
        x.addLayer();
        x.type('o');
        Expect.badState("least(1, 0, 6)", () -> x.least(1, 0, 6));
        x.type('n');
        Expect.is("undo()", x.undo(), 2);
        Expect.is("the text stays", x.type(0L), 2);
        Expect.is("fault() of 'on'", x.fault(), 1);
        Expect.is("the ring stays", x.ringLength(), 2);
        Expect.is("ringAt(1)", x.ringAt(1), 0);
        Expect.is("undo() of the bound", x.undo(), 1);
        Expect.is("the ring stays", x.ringAt(1), 0);
        Expect.badNumber("doLine() of 'on'", x::doLine);
        LinesTest.type(x, "layer");
        x.doLine();
        x.type('q');
        x.undo();
        Expect.is("the text of a line is not brought back", x.type(0L), 1);
        GlacierBook y = AgesTest.withLayers(2);
        y.least(1, 0, 1);
        y.undo();
        Expect.is("numbers of bounds are brought back", y.least(2, 0, 1), 0);
    }

    private static void promise48NoneRemembered() {
        GlacierBook x = new GlacierBook();
        Expect.badState("undo() at first", x::undo);
        Expect.badNumber("a call that throws", () -> x.setPrices(21, 0, 0));
        Expect.badState("undo() behind a call that threw", x::undo);
        x.won();
        x.leastPrice();
        x.type('a');
        x.fault();
        Expect.badState("undo() behind calls that are no acts", x::undo);
        Expect.badNumber("doLine() with a fault", x::doLine);
        Expect.badState("undo() behind it", x::undo);
        Expect.is("addLayer()", x.addLayer(), 1);
        Expect.is("undo()", x.undo(), 0);
        Expect.badState("undo() again", x::undo);
    }

    private static void promise49() {
        Expect.is("actCount() at first", new GlacierBook().actCount(), 0);
        Act[] acts = {GlacierBook::addLayer, y -> y.least(1, 0, 1), y -> y.most(1, 0, 1), y -> y.takeBack(0),
            GlacierBook::addLayer, y -> y.layOn(1, 2), y -> y.takeOff(1, 2), y -> y.addBand(0, 1, 0),
            y -> y.addBand(1, 1, 0), y -> y.setPrices(4, 2, 3), y -> y.tie(0, 0), y -> y.untie(0, 0),
            y -> y.setDate(0, 0, 1), y -> y.noDate(0, 0), y -> y.setZone(0, 1, 0), y -> y.read(0, 0, 1),
            y -> y.noReading(0, 0), y -> y.setCell(0, 0, 0), y -> y.flow(1, 0, 0, 0)};
        for (int last = 0; last < acts.length; last++) {
            GlacierBook x = new GlacierBook();
            for (int i = 0; i <= last; i++) {
                acts[i].on(x);
            }
            int due = Math.min(last + 1, 8);
            Expect.is("actCount() behind the act " + last, x.actCount(), due);
            Expect.is("undo() of the act " + last, x.undo(), due - 1);
            Expect.is("actCount() behind undo() of the act " + last, x.actCount(), due - 1);
        }
        GlacierBook z = new GlacierBook();
        for (int i = 1; i <= 12; i++) {
            z.setCell(0, i, i);
            Expect.is("actCount()", z.actCount(), Math.min(i, 8));
        }
        LinesTest.type(z, "layer");
        Expect.is("actCount() behind type()", z.actCount(), 8);
        z.undo();
        z.undo();
        Expect.is("actCount() behind undo()", z.actCount(), 6);
        z.doLine();
        Expect.is("actCount() behind doLine()", z.actCount(), 7);
        Expect.noIndex("iceOf(12)", () -> z.iceOf(12));
        Expect.badNumber("setCell(0, 0, 1000)", () -> z.setCell(0, 0, 1000));
        Expect.is("actCount() behind calls that threw", z.actCount(), 7);
    }
}
