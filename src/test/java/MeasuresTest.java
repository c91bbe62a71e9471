/** Promises 50 to 52: measures. */
public final class MeasuresTest {
    public static void main(String[] args) {
        promise50();
        promise51();
        promise52();
        Expect.end("MeasuresTest");
    }

    private static void promise50() {
        GlacierBook x = new GlacierBook();
        for (int year : new int[] {-1, 10, Integer.MIN_VALUE, Integer.MAX_VALUE}) {
            Expect.noIndex("meanValue(" + year + ")", () -> x.meanValue(year));
        }
        Expect.nothingThere("meanValue(0)", () -> x.meanValue(0));
        x.read(0, 0, -7);
        x.read(3, 0, 0);
        Expect.is("meanValue(0)", x.meanValue(0), -15.0 / 8.0);
        x.setZone(0, 3, 1);
        Expect.is("meanValue(0) by areas", x.meanValue(0), -29.0 / 10.0);
        x.setZone(7, 99, 0);
        x.read(7, 0, 999);
        Expect.is("meanValue(0), not to be told exactly", x.meanValue(0),
                (-21.0 - 5 - 3 + 249 + 499 + 749 + 99 * 999) / 108.0);
        x.read(5, 9, 0);
        Expect.is("meanValue(9) of 0", x.meanValue(9), 0.0);
    }

    private static void promise51() {
        GlacierBook x = new GlacierBook();
        Expect.is("aboveShare() without layers", x.aboveShare(), 0.0f);
        x.addLayer();
        Expect.is("aboveShare() of one", x.aboveShare(), 0.0f);
        x.addLayer();
        Expect.is("aboveShare() of two", x.aboveShare(), 0.0f);
        x.layOn(2, 1);
        Expect.is("aboveShare() of two, one above", x.aboveShare(), 1.0f);
        x.addLayer();
        Expect.is("aboveShare() of three", x.aboveShare(), 1.0f / 3.0f);
        x.layOn(1, 3);
        Expect.is("aboveShare() of a chain, with what follows", x.aboveShare(), 1.0f);
        x.addLayer();
        x.addLayer();
        Expect.is("aboveShare() of five", x.aboveShare(), 3.0f / 10.0f);
        GlacierBook y = Books.layers(16);
        for (int layer = 1; layer < 8; layer++) {
            y.layOn(layer, 16);
        }
        Expect.is("aboveShare() of 16", y.aboveShare(), 7.0f / 120.0f);
    }

    private static void promise52() {
        GlacierBook x = new GlacierBook();
        Expect.is("errors() at first", x.errors(), 0);
        for (int layer = 1; layer <= 16; layer++) {
            x.addLayer();
        }
        for (int layer = 1; layer <= 16; layer++) {
            x.least(layer, layer - 1, -9999);
            x.least(layer - 1, layer, -9999);
        }
        Expect.is("errors() with wide bounds", x.errors(), 0);
        for (int layer = 1; layer <= 16; layer++) {
            x.least(layer, layer - 1, 9999);
        }
        Expect.is("errors() with ages up to 159984", x.errors(), 0);
        Expect.badState("most(16, 0, 0)", () -> x.most(16, 0, 0));
        Expect.is("errors() behind a refused bound", x.errors(), 0);
        x.takeBack(40);
        x.most(9, 8, -9999);
        Expect.is("errors() with one taken back", x.errors(), 0);
        for (int upper = 1; upper <= 16; upper++) {
            for (int lower = upper + 1; lower <= 16; lower += upper) {
                x.layOn(upper, lower);
            }
        }
        Expect.is("errors() with lines that follow", x.errors(), 0);
        for (int zone = 0; zone < 8; zone++) {
            x.setZone(zone, 10 + zone, zone % 4);
            x.read(zone, zone, 100 * zone - 400);
            x.read(7 - zone, 9, zone - 4);
        }
        Expect.is("errors() with readings", x.errors(), 0);
        x.undo();
        Expect.is("errors() behind undo()", x.errors(), 0);
        x.addBand(0, 1, 1);
        x.flow(1, 0, 1, 1);
        Expect.is("errors() is no act", x.actCount(), 8);
    }
}
