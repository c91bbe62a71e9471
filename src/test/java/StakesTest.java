/** Promises 33 to 40: stakes by seasons and zones. */
public final class StakesTest {
    private static final int LEAST_INT = Integer.MIN_VALUE;
    private static final int GREATEST_INT = Integer.MAX_VALUE;
    private static final int[] WRONG_ZONES = {-1, 8, 9, LEAST_INT, GREATEST_INT};
    private static final int[] WRONG_YEARS = {-1, 10, 11, LEAST_INT, GREATEST_INT};

    public static void main(String[] args) {
        promise33();
        promise34();
        promise35();
        promise36();
        promise37();
        promise38();
        promise39();
        promise40();
        Expect.end("StakesTest");
    }

    private static void promise33() {
        GlacierBook x = new GlacierBook();
        for (int zone : WRONG_ZONES) {
            Expect.noIndex("setZone(" + zone + ", 1, 0)", () -> x.setZone(zone, 1, 0));
            Expect.noIndex("setZone(" + zone + ", 0, 4)", () -> x.setZone(zone, 0, 4));
        }
        for (int area : new int[] {0, -1, 100, LEAST_INT, GREATEST_INT}) {
            Expect.badNumber("setZone(0, " + area + ", 0)", () -> x.setZone(0, area, 0));
        }
        for (int part : new int[] {-1, 4, LEAST_INT, GREATEST_INT}) {
            Expect.badNumber("setZone(0, 1, " + part + ")", () -> x.setZone(0, 1, part));
        }
        x.read(3, 0, 1);
        Expect.is("balance(0) with the areas at first", x.balance(0), 8);
        Expect.is("all zones are in the part 0", x.partBalance(0, 0), 8);
        Expect.is("setZone(0, 99, 3)", x.setZone(0, 99, 3), 1);
        Expect.is("setZone(0, 1, 0)", x.setZone(0, 1, 0), 99);
        Expect.is("setZone(7, 50, 2)", x.setZone(7, 50, 2), 1);
        Expect.is("setZone(7, 50, 2) again", x.setZone(7, 50, 2), 50);
        Expect.is("balance(0)", x.balance(0), 57);
        Expect.is("partBalance(2, 0)", x.partBalance(2, 0), 50);
        Expect.badNumber("setZone(7, 5, 4)", () -> x.setZone(7, 5, 4));
        Expect.is("balance(0) as before", x.balance(0), 57);
    }

    private static void promise34() {
        GlacierBook x = new GlacierBook();
        for (int zone : WRONG_ZONES) {
            Expect.noIndex("read(" + zone + ", 0, 1)", () -> x.read(zone, 0, 1));
        }
        for (int year : WRONG_YEARS) {
            Expect.noIndex("read(0, " + year + ", 1000)", () -> x.read(0, year, 1000));
        }
        for (int value : new int[] {-1000, 1000, LEAST_INT, GREATEST_INT}) {
            Expect.badNumber("read(0, 0, " + value + ")", () -> x.read(0, 0, value));
        }
        Expect.nothingThere("balance(0)", () -> x.balance(0));
        Expect.is("read(0, 0, 999)", x.read(0, 0, 999), 1);
        Expect.is("read(7, 0, -999)", x.read(7, 0, -999), 2);
        Expect.is("read(0, 0, 5), in its place", x.read(0, 0, 5), 2);
        Expect.is("read(0, 9, 0), another year", x.read(0, 9, 0), 1);
        Expect.is("valueOf(0, 0)", x.valueOf(0, 0), 5);
        Expect.is("valueOf(7, 0)", x.valueOf(7, 0), -999);
        Expect.is("valueOf(0, 9)", x.valueOf(0, 9), 0);
        for (int value = -999; value <= 999; value++) {
            GlacierBook y = new GlacierBook();
            Expect.is("read() of each value", y.read(6, 8, value), 1);
            Expect.is("valueOf() of each value", y.valueOf(6, 8), value);
            Expect.is("reason() of each value", y.reason(6, 8), 0);
            Expect.is("noReading() of each value", y.noReading(6, 8), value);
        }
        for (int zone = 0; zone < 8; zone++) {
            Expect.is("read() of all zones", x.read(zone, 4, 10 * zone), zone + 1);
        }
        for (int zone = 0; zone < 8; zone++) {
            Expect.is("valueOf() of all zones", x.valueOf(zone, 4), 10 * zone);
        }
    }

    private static void promise35() {
        GlacierBook x = new GlacierBook();
        for (int zone : WRONG_ZONES) {
            Expect.noIndex("noReading(" + zone + ", 0)", () -> x.noReading(zone, 0));
        }
        for (int year : WRONG_YEARS) {
            Expect.noIndex("noReading(0, " + year + ")", () -> x.noReading(0, year));
        }
        Expect.nothingThere("noReading(0, 0)", () -> x.noReading(0, 0));
        x.read(2, 3, -999);
        x.read(3, 3, 999);
        x.read(4, 3, 0);
        Expect.nothingThere("noReading(3, 2)", () -> x.noReading(3, 2));
        Expect.nothingThere("noReading(5, 3), just filled", () -> x.noReading(5, 3));
        Expect.is("noReading(3, 3)", x.noReading(3, 3), 999);
        Expect.nothingThere("noReading(3, 3) again", () -> x.noReading(3, 3));
        Expect.is("noReading(4, 3)", x.noReading(4, 3), 0);
        Expect.is("noReading(2, 3)", x.noReading(2, 3), -999);
        Expect.nothingThere("valueOf(2, 3)", () -> x.valueOf(2, 3));
        Expect.is("read(1, 3, 1)", x.read(1, 3, 1), 1);
    }

    private static void promise36() {
        GlacierBook x = new GlacierBook();
        for (int zone : WRONG_ZONES) {
            Expect.noIndex("valueOf(" + zone + ", 0)", () -> x.valueOf(zone, 0));
        }
        for (int year : WRONG_YEARS) {
            Expect.noIndex("valueOf(0, " + year + ")", () -> x.valueOf(0, year));
        }
        Expect.nothingThere("valueOf(0, 0)", () -> x.valueOf(0, 0));
        x.read(1, 0, -7);
        x.read(4, 0, 0);
        x.read(6, 0, -5);
        int[] due = {-7, -7, -5, -3, 0, -3, -5, -5};
        for (int zone = 0; zone < 8; zone++) {
            Expect.is("valueOf(" + zone + ", 0)", x.valueOf(zone, 0), due[zone]);
        }
        Expect.nothingThere("valueOf(0, 1), another year", () -> x.valueOf(0, 1));
        x.read(0, 2, 999);
        x.read(7, 2, -999);
        Expect.is("valueOf(1, 2), falling", x.valueOf(1, 2), 999 - 286);
        Expect.is("valueOf(6, 2), falling", x.valueOf(6, 2), 999 - 1713);
        x.read(0, 3, -1);
        x.read(2, 3, 0);
        Expect.is("valueOf(1, 3), to the lesser number", x.valueOf(1, 3), -1);
        x.read(0, 4, 5);
        x.read(2, 4, 4);
        Expect.is("valueOf(1, 4), to the lesser number", x.valueOf(1, 4), 4);
        x.read(0, 5, 3);
        x.read(2, 5, 6);
        Expect.is("valueOf(1, 5), rising", x.valueOf(1, 5), 4);
    }

    private static void promise37() {
        GlacierBook x = new GlacierBook();
        for (int zone : WRONG_ZONES) {
            Expect.noIndex("reason(" + zone + ", 0)", () -> x.reason(zone, 0));
        }
        for (int year : WRONG_YEARS) {
            Expect.noIndex("reason(0, " + year + ")", () -> x.reason(0, year));
        }
        Expect.nothingThere("reason(0, 0)", () -> x.reason(0, 0));
        x.read(2, 0, 1);
        x.read(5, 0, 1);
        int[] due = {3, 3, 0, 1, 1, 0, 2, 2};
        for (int zone = 0; zone < 8; zone++) {
            Expect.is("reason(" + zone + ", 0)", x.reason(zone, 0), due[zone]);
        }
        Expect.nothingThere("reason(2, 1)", () -> x.reason(2, 1));
        x.noReading(2, 0);
        Expect.is("reason(3, 0), from above alone", x.reason(3, 0), GlacierBook.FROM_ABOVE);
    }

    private static void promise38() {
        GlacierBook x = new GlacierBook();
        for (int year : WRONG_YEARS) {
            Expect.noIndex("balance(" + year + ")", () -> x.balance(year));
        }
        Expect.nothingThere("balance(5)", () -> x.balance(5));
        x.read(0, 5, -7);
        x.read(3, 5, 0);
        Expect.is("balance(5)", x.balance(5), -15);
        x.setZone(0, 10, 0);
        x.setZone(1, 3, 1);
        Expect.is("balance(5) by areas", x.balance(5), -70 - 15 - 3);
        x.setZone(7, 99, 3);
        x.read(7, 5, 999);
        Expect.is("balance(5) by areas", x.balance(5), -70 - 15 - 3 + 249 + 499 + 749 + 99 * 999);
        Expect.nothingThere("balance(4)", () -> x.balance(4));
    }

    private static void promise39() {
        GlacierBook x = new GlacierBook();
        for (int part : new int[] {-1, 4, LEAST_INT, GREATEST_INT}) {
            Expect.noIndex("partBalance(" + part + ", 0)", () -> x.partBalance(part, 0));
        }
        for (int year : WRONG_YEARS) {
            Expect.noIndex("partBalance(0, " + year + ")", () -> x.partBalance(0, year));
        }
        Expect.nothingThere("partBalance(3, 0)", () -> x.partBalance(3, 0));
        for (int zone = 0; zone < 8; zone++) {
            x.setZone(zone, zone + 1, zone % 3);
            x.read(zone, 0, zone);
        }
        Expect.is("partBalance(0, 0)", x.partBalance(0, 0), 12 + 42);
        Expect.is("partBalance(1, 0)", x.partBalance(1, 0), 2 + 20 + 56);
        Expect.is("partBalance(2, 0)", x.partBalance(2, 0), 6 + 30);
        Expect.is("partBalance(3, 0) without zones", x.partBalance(3, 0), 0);
        Expect.nothingThere("partBalance(3, 1) without readings", () -> x.partBalance(3, 1));
        x.noReading(0, 0);
        Expect.is("partBalance(0, 0), filled", x.partBalance(0, 0), 1 + 12 + 42);
    }

    private static void promise40() {
        GlacierBook x = new GlacierBook();
        for (int year : WRONG_YEARS) {
            Expect.noIndex("lineOf(" + year + ")", () -> x.lineOf(year));
        }
        Expect.nothingThere("lineOf(0)", () -> x.lineOf(0));
        x.read(0, 0, 0);
        Expect.is("lineOf(0), none below 0", x.lineOf(0), 0);
        x.read(0, 0, -1);
        Expect.is("lineOf(0), all below 0", x.lineOf(0), 8);
        x.read(3, 0, 0);
        Expect.is("lineOf(0), filled below 0", x.lineOf(0), 3);
        x.read(5, 0, -1);
        x.read(6, 0, 1);
        Expect.is("lineOf(0), below 0 once more", x.lineOf(0), 6);
        x.read(7, 0, -1);
        Expect.is("lineOf(0), below 0 at the top", x.lineOf(0), 8);
        x.read(0, 0, 9);
        x.read(7, 0, 0);
        Expect.is("lineOf(0), not the first one alone", x.lineOf(0), 6);
        for (int line = 0; line <= 8; line++) {
            GlacierBook y = new GlacierBook();
            for (int zone = 0; zone < 8; zone++) {
                y.read(zone, 9, zone == line - 1 ? -1 : 0);
            }
            Expect.is("lineOf(9) above a zone below 0", y.lineOf(9), line);
        }
    }
}
