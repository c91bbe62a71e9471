import java.util.ArrayList;
import java.util.List;

/** Promises 21 to 32: bands laid beside each other, and dated bands. */
public final class BandsTest {
    private static final int LEAST_INT = Integer.MIN_VALUE;
    private static final int GREATEST_INT = Integer.MAX_VALUE;
    private static final int[] WRONG_ROWS = {-1, 2, 3, LEAST_INT, GREATEST_INT};

    public static void main(String[] args) {
        promise21();
        promise22();
        promise22EachPrice();
        promise23();
        promise24();
        promise25();
        promise26();
        promise26Ties();
        promise27();
        promise28();
        promise28FirstKind();
        promise29();
        promise30();
        promise31();
        promise32();
        datesAndWays();
        allWays();
        Expect.end("BandsTest");
    }

    /** Makes a book with bands without unlike marks, from their thicknesses. */
    static GlacierBook withBands(String row0, String row1) {
        GlacierBook x = new GlacierBook();
        for (char thickness : row0.toCharArray()) {
            x.addBand(0, thickness - '0', 0);
        }
        for (char thickness : row1.toCharArray()) {
            x.addBand(1, thickness - '0', 0);
        }
        return x;
    }

    private static void promise21() {
        GlacierBook x = new GlacierBook();
        for (int row : WRONG_ROWS) {
            Expect.noIndex("addBand(" + row + ", 1, 0)", () -> x.addBand(row, 1, 0));
            Expect.noIndex("addBand(" + row + ", 0, 4)", () -> x.addBand(row, 0, 4));
        }
        for (int thickness : new int[] {0, 10, -1, LEAST_INT, GREATEST_INT}) {
            Expect.badNumber("addBand(0, " + thickness + ", 0)", () -> x.addBand(0, thickness, 0));
        }
        for (int mark : new int[] {-1, 4, LEAST_INT, GREATEST_INT}) {
            Expect.badNumber("addBand(1, 1, " + mark + ")", () -> x.addBand(1, 1, mark));
        }
        Expect.is("actCount()", x.actCount(), 0);
        for (int band = 0; band < 16; band++) {
            Expect.is("addBand(0, ..)", x.addBand(0, 1 + band % 9, band % 4), band);
            Expect.is("addBand(1, ..)", x.addBand(1, 9 - band % 9, 3 - band % 4), band);
        }
        Expect.badState("addBand(0, ..) with 16", () -> x.addBand(0, 9, 3));
        Expect.badState("addBand(1, ..) with 16", () -> x.addBand(1, 9, 3));
        Expect.badNumber("addBand(0, 10, 3) with 16", () -> x.addBand(0, 10, 3));
        Expect.badNumber("addBand(0, 9, 4) with 16", () -> x.addBand(0, 9, 4));
        Expect.noIndex("addBand(2, 10, 3) with 16", () -> x.addBand(2, 10, 3));
        Expect.is("bandCount(0)", x.bandCount(0), 16);
        Expect.is("bandCount(1)", x.bandCount(1), 16);
        x.undo();
        Expect.is("addBand(1, ..) behind undo()", x.addBand(1, 9, 3), 15);
    }

    private static void promise22() {
        GlacierBook x = new GlacierBook();
        for (int wrong : new int[] {-1, 21, LEAST_INT, GREATEST_INT}) {
            Expect.badNumber("setPrices(" + wrong + ", 1, 1)", () -> x.setPrices(wrong, 1, 1));
            Expect.badNumber("setPrices(1, " + wrong + ", 1)", () -> x.setPrices(1, wrong, 1));
            Expect.badNumber("setPrices(1, 1, " + wrong + ")", () -> x.setPrices(1, 1, wrong));
        }
        Expect.is("setPrices() the first time", x.setPrices(20, 20, 20), 9);
        Expect.is("setPrices() the second time", x.setPrices(0, 0, 0), 60);
        Expect.is("setPrices() the third time", x.setPrices(1, 2, 4), 0);
        Expect.badNumber("setPrices(1, 2, 21)", () -> x.setPrices(1, 2, 21));
        Expect.is("setPrices() the fourth time", x.setPrices(1, 2, 4), 7);
    }

    private static void promise22EachPrice() {
        GlacierBook x = withBands("3", "");
        Expect.is("a missed band", x.leastPrice(), 4);
        x.setPrices(7, 0, 0);
        Expect.is("a missed band for 7", x.leastPrice(), 7);
        GlacierBook y = withBands("5", "23");
        Expect.is("a double one", y.leastPrice(), 2);
        y.setPrices(10, 9, 0);
        Expect.is("a double one for 9", y.leastPrice(), 9);
        GlacierBook z = new GlacierBook();
        z.addBand(0, 5, 1);
        z.addBand(1, 5, 2);
        Expect.is("unlike marks", z.leastPrice(), 3);
        z.setPrices(4, 2, 7);
        Expect.is("unlike marks for 7", z.leastPrice(), 7);
        z.setPrices(4, 2, 9);
        Expect.is("both missed are cheaper", z.leastPrice(), 8);
    }

    private static void promise23() {
        GlacierBook x = withBands("1111", "111");
        for (int wrong : new int[] {-1, 4, LEAST_INT, GREATEST_INT}) {
            Expect.noIndex("tie(" + wrong + ", 0)", () -> x.tie(wrong, 0));
        }
        for (int wrong : new int[] {-1, 3, LEAST_INT, GREATEST_INT}) {
            Expect.noIndex("tie(0, " + wrong + ")", () -> x.tie(0, wrong));
        }
        Expect.is("tie(1, 1)", x.tie(1, 1), 1);
        Expect.badState("tie(1, 1) again", () -> x.tie(1, 1));
        Expect.badState("tie(1, 2)", () -> x.tie(1, 2));
        Expect.badState("tie(0, 1)", () -> x.tie(0, 1));
        Expect.badState("tie(0, 2) crosses", () -> x.tie(0, 2));
        Expect.badState("tie(2, 0) crosses", () -> x.tie(2, 0));
        Expect.noIndex("tie(1, 3), tied and no band", () -> x.tie(1, 3));
        Expect.is("tie(3, 2)", x.tie(3, 2), 2);
        Expect.is("tie(0, 0)", x.tie(0, 0), 3);
        GlacierBook y = withBands("111", "111");
        y.tie(0, 1);
        Expect.badState("tie(1, 0) crosses the first one", () -> y.tie(1, 0));
        Expect.badState("tie(2, 0) crosses the first one", () -> y.tie(2, 0));
        Expect.is("tie(2, 2)", y.tie(2, 2), 2);
        Expect.is("bands that are tied", x.partner(0, 3), 2);
        Expect.is("the band left alone", x.partner(0, 2), -1);
    }

    private static void promise24() {
        GlacierBook x = withBands("111", "1111");
        x.tie(1, 3);
        for (int row : WRONG_ROWS) {
            Expect.noIndex("untie(" + row + ", 1)", () -> x.untie(row, 1));
        }
        for (int band : new int[] {-1, 3, LEAST_INT, GREATEST_INT}) {
            Expect.noIndex("untie(0, " + band + ")", () -> x.untie(0, band));
        }
        for (int band : new int[] {-1, 4, LEAST_INT, GREATEST_INT}) {
            Expect.noIndex("untie(1, " + band + ")", () -> x.untie(1, band));
        }
        Expect.nothingThere("untie(0, 0)", () -> x.untie(0, 0));
        Expect.nothingThere("untie(1, 1)", () -> x.untie(1, 1));
        Expect.nothingThere("untie(0, 2)", () -> x.untie(0, 2));
        Expect.is("untie(0, 1)", x.untie(0, 1), 3);
        Expect.nothingThere("untie(0, 1) again", () -> x.untie(0, 1));
        Expect.nothingThere("untie(1, 3), its other end", () -> x.untie(1, 3));
        Expect.is("tie(2, 0) crosses no more", x.tie(2, 0), 1);
        Expect.is("untie(1, 0)", x.untie(1, 0), 2);
        Expect.nothingThere("untie(0, 2), its other end", () -> x.untie(0, 2));
        Expect.is("tie(0, 0)", x.tie(0, 0), 1);
        Expect.is("untie(1, 0) of the first ones", x.untie(1, 0), 0);
    }

    private static void promise25() {
        GlacierBook x = withBands("12", "3");
        for (int row : WRONG_ROWS) {
            Expect.noIndex("bandCount(" + row + ")", () -> x.bandCount(row));
        }
        Expect.is("bandCount(0)", x.bandCount(0), 2);
        Expect.is("bandCount(1)", x.bandCount(1), 1);
    }

    private static void promise26() {
        Expect.is("leastPrice() without bands", new GlacierBook().leastPrice(), 0);
        Expect.is("a row alone", withBands("", "999").leastPrice(), 12);
        Expect.is("two alike", withBands("12", "12").leastPrice(), 0);
        Expect.is("a difference", withBands("9", "1").leastPrice(), 8);
        Expect.is("one more", withBands("44", "4").leastPrice(), 4);
        Expect.is("two beside one of the row 1", withBands("44", "8").leastPrice(), 2);
        Expect.is("two beside one of the row 0", withBands("8", "44").leastPrice(), 2);
        Expect.is("two that are too thick", withBands("6", "44").leastPrice(), 4);
        Expect.is("two that are too thin", withBands("9", "34").leastPrice(), 4);
        GlacierBook x = new GlacierBook();
        x.addBand(0, 5, 1);
        x.addBand(1, 2, 2);
        x.addBand(1, 3, 3);
        Expect.is("a mark that is none of both", x.leastPrice(), 5);
        x.addBand(0, 5, 3);
        x.addBand(1, 5, 0);
        Expect.is("and unlike marks", x.leastPrice(), 8);
        GlacierBook y = new GlacierBook();
        y.addBand(0, 2, 2);
        y.addBand(0, 3, 1);
        y.addBand(1, 5, 1);
        Expect.is("a mark that is one of both", y.leastPrice(), 2);
    }

    private static void promise26Ties() {
        GlacierBook x = withBands("44", "8");
        x.tie(0, 0);
        Expect.is("44 beside 8, the first one tied", x.leastPrice(), 8);
        x.untie(0, 0);
        x.tie(1, 0);
        Expect.is("44 beside 8, the second one tied", x.leastPrice(), 8);
        GlacierBook y = withBands("91", "19");
        y.tie(0, 1);
        Expect.is("91 beside 19, the thick ones tied", y.leastPrice(), 8);
        y.untie(1, 1);
        y.tie(0, 0);
        Expect.is("91 beside 19, the first ones tied", y.leastPrice(), 16);
    }

    private static void promise27() {
        Expect.is("bestWays() without bands", new GlacierBook().bestWays(), 1L);
        Expect.is("a row alone", withBands("111", "").bestWays(), 1L);
        Expect.is("one of two missed", withBands("44", "4").bestWays(), 2L);
        GlacierBook x = withBands("44", "4");
        x.tie(1, 0);
        Expect.is("one of two missed, the other tied", x.bestWays(), 1L);
        GlacierBook y = withBands("1", "1");
        y.setPrices(0, 0, 0);
        Expect.is("all three ways for 0", y.bestWays(), 3L);
        GlacierBook z = withBands("1111111111111111", "1111111111111111");
        z.setPrices(0, 20, 0);
        Expect.is("all ways of 16 and 16 without double ones", z.bestWays(), 252055236609L);
    }

    private static void promise28() {
        GlacierBook x = withBands("44", "4");
        for (int row : WRONG_ROWS) {
            Expect.noIndex("partner(" + row + ", 0)", () -> x.partner(row, 0));
        }
        for (int band : new int[] {-1, 2, LEAST_INT, GREATEST_INT}) {
            Expect.noIndex("partner(0, " + band + ")", () -> x.partner(0, band));
        }
        Expect.noIndex("partner(1, 1)", () -> x.partner(1, 1));
        Expect.is("TOGETHER comes ahead of ONLY_0", x.partner(0, 0), 0);
        Expect.is("the rest is alone", x.partner(0, 1), -1);
        Expect.is("partner(1, 0)", x.partner(1, 0), 0);
        GlacierBook y = withBands("18", "144");
        Expect.is("partner(0, 1), of two the first one", y.partner(0, 1), 1);
        Expect.is("partner(1, 1)", y.partner(1, 1), 1);
        Expect.is("partner(1, 2)", y.partner(1, 2), 1);
        GlacierBook z = withBands("144", "18");
        Expect.is("partner(1, 1), of two the first one", z.partner(1, 1), 1);
        Expect.is("partner(0, 1)", z.partner(0, 1), 1);
        Expect.is("partner(0, 2)", z.partner(0, 2), 1);
        GlacierBook w = withBands("9", "1");
        Expect.is("ONLY_0 and ONLY_1 cost as much as TOGETHER", w.partner(0, 0), 0);
        w.setPrices(3, 0, 0);
        Expect.is("both alone", w.partner(0, 0), -1);
        Expect.is("both alone", w.partner(1, 0), -1);
        GlacierBook u = withBands("9999999999999999", "1111111111111111");
        u.tie(15, 15);
        u.setPrices(0, 0, 0);
        Expect.is("partner(0, 14) of many steps", u.partner(0, 14), -1);
        Expect.is("partner(0, 15) at the end of 31 steps", u.partner(0, 15), 15);
        Expect.is("partner(1, 15) at the end of 31 steps", u.partner(1, 15), 15);
        GlacierBook v = withBands("2", "22");
        v.setPrices(2, 0, 0);
        Expect.is("ONLY_1 comes ahead of DOUBLE_1, behind TOGETHER", v.partner(1, 1), -1);
        v.tie(0, 1);
        Expect.is("by the tie", v.partner(0, 0), 1);
    }

    private static void partners(String what, GlacierBook x, int[] row0, int[] row1) {
        for (int band = 0; band < row0.length; band++) {
            Expect.is(what + ": partner(0, " + band + ")", x.partner(0, band), row0[band]);
        }
        for (int band = 0; band < row1.length; band++) {
            Expect.is(what + ": partner(1, " + band + ")", x.partner(1, band), row1[band]);
        }
    }

    /** Two best ways each time, of which one begins with each of two kinds; the first kind is taken. */
    private static void promise28FirstKind() {
        pair("TOGETHER, ONLY_0", "44", "4", 4, 2, 0, new int[] {0, -1}, new int[] {0});
        pair("TOGETHER, ONLY_1", "4", "44", 4, 2, 0, new int[] {0}, new int[] {0, -1});
        pair("TOGETHER, DOUBLE_1", "22", "111", 4, 2, 0, new int[] {0, 1}, new int[] {0, 1, 1});
        pair("TOGETHER, DOUBLE_0", "111", "22", 4, 2, 0, new int[] {0, 1, 1}, new int[] {0, 1});
        pair("ONLY_0, ONLY_1", "19", "91", 4, 20, 0, new int[] {-1, 0}, new int[] {1, -1});
        pair("ONLY_0, DOUBLE_1", "66", "33", 2, 2, 0, new int[] {-1, 0}, new int[] {1, 1});
        pair("ONLY_0, DOUBLE_0", "333", "6", 2, 2, 0, new int[] {-1, 0, 0}, new int[] {1});
        pair("ONLY_1, DOUBLE_1", "6", "333", 2, 2, 0, new int[] {1}, new int[] {-1, 0, 0});
        pair("ONLY_1, DOUBLE_0", "33", "66", 2, 2, 0, new int[] {1, 1}, new int[] {-1, 0});
        GlacierBook x = new GlacierBook();
        int[] marks0 = {0, 1, 0};
        int[] marks1 = {1, 0, 1};
        for (int band = 0; band < 3; band++) {
            x.addBand(0, 1, marks0[band]);
            x.addBand(1, 1, marks1[band]);
        }
        x.setPrices(20, 0, 20);
        Expect.is("DOUBLE_1, DOUBLE_0: leastPrice()", x.leastPrice(), 2);
        Expect.is("DOUBLE_1, DOUBLE_0: bestWays()", x.bestWays(), 2L);
        partners("DOUBLE_1, DOUBLE_0", x, new int[] {0, 2, 2}, new int[] {0, 0, 1});
    }

    private static void pair(String what, String row0, String row1, int missed, int twice, int mark, int[] due0,
            int[] due1) {
        GlacierBook x = withBands(row0, row1);
        x.setPrices(missed, twice, mark);
        Expect.is(what + ": bestWays()", x.bestWays(), 2L);
        partners(what, x, due0, due1);
    }

    private static void promise29() {
        GlacierBook x = withBands("44", "4");
        Expect.noIndex("isSure(-1, 0)", () -> x.isSure(-1, 0));
        Expect.noIndex("isSure(2, 0)", () -> x.isSure(2, 0));
        Expect.noIndex("isSure(0, -1)", () -> x.isSure(0, -1));
        Expect.noIndex("isSure(0, 1)", () -> x.isSure(0, 1));
        Expect.noIndex("isSure(MAX, MIN)", () -> x.isSure(GREATEST_INT, LEAST_INT));
        Expect.is("isSure(0, 0), one of two ways", x.isSure(0, 0), false);
        Expect.is("isSure(1, 0), one of two ways", x.isSure(1, 0), false);
        x.tie(0, 0);
        Expect.is("isSure(0, 0), tied", x.isSure(0, 0), true);
        Expect.is("isSure(1, 0), tied elsewhere", x.isSure(1, 0), false);
        GlacierBook y = withBands("18", "144");
        Expect.is("isSure(0, 0)", y.isSure(0, 0), true);
        Expect.is("isSure(1, 1), by a double step", y.isSure(1, 1), false);
        GlacierBook z = withBands("9", "1");
        Expect.is("isSure(0, 0), as dear as both alone", z.isSure(0, 0), false);
        z.setPrices(5, 0, 0);
        Expect.is("isSure(0, 0), cheaper", z.isSure(0, 0), true);
        Expect.is("isSure() bars nothing for later", z.leastPrice(), 8);
        Expect.is("isSure() bars nothing for later", z.partner(0, 0), 0);
    }

    private static void promise30() {
        GlacierBook x = withBands("11111", "1");
        for (int row : WRONG_ROWS) {
            Expect.noIndex("setDate(" + row + ", 0, 1)", () -> x.setDate(row, 0, 1));
        }
        for (int band : new int[] {-1, 5, LEAST_INT, GREATEST_INT}) {
            Expect.noIndex("setDate(0, " + band + ", 100000)", () -> x.setDate(0, band, 100000));
        }
        for (int age : new int[] {-1, 100000, LEAST_INT, GREATEST_INT}) {
            Expect.badNumber("setDate(0, 0, " + age + ")", () -> x.setDate(0, 0, age));
        }
        Expect.is("setDate(0, 2, 500)", x.setDate(0, 2, 500), -1);
        Expect.is("setDate(0, 2, 400)", x.setDate(0, 2, 400), 500);
        Expect.badState("setDate(0, 0, 401)", () -> x.setDate(0, 0, 401));
        Expect.badState("setDate(0, 4, 399)", () -> x.setDate(0, 4, 399));
        Expect.badNumber("setDate(0, 4, -1)", () -> x.setDate(0, 4, -1));
        Expect.is("setDate(0, 0, 400), the same", x.setDate(0, 0, 400), -1);
        Expect.is("setDate(0, 4, 400), the same", x.setDate(0, 4, 400), -1);
        Expect.is("ageOf(0, 1), between the same", x.ageOf(0, 1), 400);
        Expect.is("setDate(1, 0, 0), the other row", x.setDate(1, 0, 0), -1);
        Expect.is("setDate(0, 4, 99999)", x.setDate(0, 4, 99999), 400);
        Expect.is("setDate(0, 0, 0)", x.setDate(0, 0, 0), 400);
        Expect.badState("setDate(0, 1, 401)", () -> x.setDate(0, 1, 401));
        Expect.badState("setDate(0, 3, 399)", () -> x.setDate(0, 3, 399));
        Expect.is("setDate(0, 0, 0) again", x.setDate(0, 0, 0), 0);
        Expect.is("setDate(0, 2, 99999)", x.setDate(0, 2, 99999), 400);
        Expect.is("a date 0 is one", x.ageOf(0, 0), 0);
    }

    private static void promise31() {
        GlacierBook x = withBands("111", "11");
        x.setDate(0, 1, 0);
        x.setDate(1, 1, 77);
        for (int row : WRONG_ROWS) {
            Expect.noIndex("noDate(" + row + ", 0)", () -> x.noDate(row, 0));
        }
        for (int band : new int[] {-1, 3, LEAST_INT, GREATEST_INT}) {
            Expect.noIndex("noDate(0, " + band + ")", () -> x.noDate(0, band));
        }
        Expect.nothingThere("noDate(0, 0)", () -> x.noDate(0, 0));
        Expect.nothingThere("noDate(1, 0)", () -> x.noDate(1, 0));
        Expect.is("noDate(0, 1)", x.noDate(0, 1), 0);
        Expect.nothingThere("noDate(0, 1) again", () -> x.noDate(0, 1));
        Expect.is("noDate(1, 1)", x.noDate(1, 1), 77);
        Expect.nothingThere("ageOf(1, 1)", () -> x.ageOf(1, 1));
        Expect.is("setDate(0, 2, 5)", x.setDate(0, 2, 5), -1);
    }

    private static void promise32() {
        GlacierBook x = withBands("11111111", "111");
        for (int row : WRONG_ROWS) {
            Expect.noIndex("ageOf(" + row + ", 0)", () -> x.ageOf(row, 0));
        }
        for (int band : new int[] {-1, 3, LEAST_INT, GREATEST_INT}) {
            Expect.noIndex("ageOf(1, " + band + ")", () -> x.ageOf(1, band));
        }
        Expect.nothingThere("ageOf(0, 3) without dates", () -> x.ageOf(0, 3));
        x.setDate(0, 1, 100);
        Expect.is("ageOf(0, 1)", x.ageOf(0, 1), 100);
        Expect.nothingThere("ageOf(0, 0), none above", () -> x.ageOf(0, 0));
        Expect.nothingThere("ageOf(0, 2), none below", () -> x.ageOf(0, 2));
        x.setDate(0, 4, 110);
        Expect.is("ageOf(0, 2)", x.ageOf(0, 2), 103);
        Expect.is("ageOf(0, 3), rounded down", x.ageOf(0, 3), 106);
        x.setDate(0, 7, 99999);
        Expect.is("ageOf(0, 3), by the nearest ones", x.ageOf(0, 3), 106);
        Expect.is("ageOf(0, 6)", x.ageOf(0, 6), 110 + 99889 * 2 / 3);
        x.setDate(0, 2, 109);
        Expect.is("ageOf(0, 3), a nearer one", x.ageOf(0, 3), 109);
        Expect.nothingThere("ageOf(1, 1), the other row", () -> x.ageOf(1, 1));
        GlacierBook y = withBands("1111111111111111", "");
        y.setDate(0, 0, 0);
        y.setDate(0, 15, 99999);
        Expect.is("ageOf(0, 14) of 16", y.ageOf(0, 14), 93332);
    }

    /** Dates tell nothing of how bands are laid, nor ties of ages. */
    private static void datesAndWays() {
        GlacierBook x = withBands("195", "915");
        x.setPrices(4, 20, 0);
        x.setDate(0, 0, 10);
        x.setDate(0, 1, 2000);
        x.setDate(0, 2, 3000);
        x.setDate(1, 0, 10);
        x.setDate(1, 2, 12);
        Expect.is("leastPrice() of dated bands", x.leastPrice(), 8);
        Expect.is("bestWays() of dated bands", x.bestWays(), 2L);
        partners("dated bands", x, new int[] {-1, 0, 2}, new int[] {1, -1, 2});
        Expect.is("tie(1, 1) of unlike dates", x.tie(1, 1), 1);
        Expect.is("ageOf(1, 1), tied", x.ageOf(1, 1), 11);
        Expect.nothingThere("noDate(1, 1), tied", () -> x.noDate(1, 1));
        Expect.is("leastPrice() of dated bands, tied", x.leastPrice(), 16);
        for (int one = 0; one < 2; one++) {
            GlacierBook y = one == 0 ? withBands("4", "22") : withBands("22", "4");
            y.setDate(one, 0, 10);
            y.setDate(1 - one, 0, 11);
            y.setDate(1 - one, 1, 12);
            Expect.is("leastPrice() of a dated one beside two", y.leastPrice(), 2);
            Expect.is("bestWays() of a dated one beside two", y.bestWays(), 1L);
        }
    }

    // ---- all ways, one after the other, for small rows

    private static final int[][] TAKES = {{1, 1}, {1, 0}, {0, 1}, {1, 2}, {2, 1}};

    /** Small rows with some ties, against a look at each single way. */
    private static void allWays() {
        int seed = 1;
        for (int round = 0; round < 400; round++) {
            int[][][] bands = new int[2][][];
            GlacierBook x = new GlacierBook();
            for (int row = 0; row < 2; row++) {
                seed = seed * 1103515245 + 12345;
                bands[row] = new int[(seed >>> 16) % 5][];
                for (int band = 0; band < bands[row].length; band++) {
                    seed = seed * 1103515245 + 12345;
                    int thickness = 1 + (seed >>> 16) % 9;
                    int mark = (seed >>> 24) % (round % 2 == 0 ? 2 : 4);
                    bands[row][band] = new int[] {thickness, mark};
                    x.addBand(row, thickness, mark);
                }
            }
            seed = seed * 1103515245 + 12345;
            int[] prices = {(seed >>> 16) % 6, (seed >>> 20) % 5, (seed >>> 24) % 4};
            x.setPrices(prices[0], prices[1], prices[2]);
            List<int[]> ties = new ArrayList<>();
            if (round % 3 == 0 && bands[0].length > 1 && bands[1].length > 1) {
                x.tie(1, round % 2);
                ties.add(new int[] {1, round % 2});
            }
            compare("rows " + round, x, bands, prices, ties);
        }
    }

    private static void compare(String what, GlacierBook x, int[][][] bands, int[] prices, List<int[]> ties) {
        List<List<int[]>> ways = new ArrayList<>();
        collect(0, 0, new ArrayList<>(), bands, ways);
        int least = Integer.MAX_VALUE;
        List<List<int[]>> best = new ArrayList<>();
        for (List<int[]> way : ways) {
            boolean counts = true;
            for (int[] tie : ties) {
                counts &= has(way, tie[0], tie[1]);
            }
            int price = priceOf(way, bands, prices);
            if (counts && price < least) {
                least = price;
                best.clear();
            }
            if (counts && price == least) {
                best.add(way);
            }
        }
        Expect.is(what + ": leastPrice()", x.leastPrice(), least);
        Expect.is(what + ": bestWays()", x.bestWays(), (long) best.size());
        for (int first = 0; first < bands[0].length; first++) {
            for (int second = 0; second < bands[1].length; second++) {
                boolean sure = true;
                for (List<int[]> way : best) {
                    sure &= has(way, first, second);
                }
                Expect.is(what + ": isSure()", x.isSure(first, second), sure);
            }
        }
        for (int[] step : best.get(0)) {
            boolean alone = step[0] == 1 || step[0] == 2;
            for (int i = 0; i < TAKES[step[0]][0]; i++) {
                Expect.is(what + ": partner(0, )", x.partner(0, step[1] + i), alone ? -1 : step[2]);
            }
            for (int j = 0; j < TAKES[step[0]][1]; j++) {
                Expect.is(what + ": partner(1, )", x.partner(1, step[2] + j), alone ? -1 : step[1]);
            }
        }
    }

    /** Collects all ways in the order of their kinds of steps; a step is a kind with its places. */
    private static void collect(int i, int j, List<int[]> sofar, int[][][] bands, List<List<int[]>> ways) {
        if (i == bands[0].length && j == bands[1].length) {
            ways.add(new ArrayList<>(sofar));
            return;
        }
        for (int kind = 0; kind < 5; kind++) {
            int nextI = i + TAKES[kind][0];
            int nextJ = j + TAKES[kind][1];
            if (nextI <= bands[0].length && nextJ <= bands[1].length) {
                sofar.add(new int[] {kind, i, j});
                collect(nextI, nextJ, sofar, bands, ways);
                sofar.remove(sofar.size() - 1);
            }
        }
    }

    private static boolean has(List<int[]> way, int first, int second) {
        for (int[] step : way) {
            if (step[0] == 0 && step[1] == first && step[2] == second) {
                return true;
            }
        }
        return false;
    }

    private static int priceOf(List<int[]> way, int[][][] bands, int[] prices) {
        int sum = 0;
        for (int[] step : way) {
            int[] a = step[1] < bands[0].length ? bands[0][step[1]] : null;
            int[] b = step[2] < bands[1].length ? bands[1][step[2]] : null;
            if (step[0] == 1 || step[0] == 2) {
                sum += prices[0];
            } else if (step[0] == 0) {
                sum += Math.abs(a[0] - b[0]) + (a[1] == b[1] ? 0 : prices[2]);
            } else {
                int[] one = step[0] == 3 ? a : b;
                int[] upper = step[0] == 3 ? b : a;
                int[] lower = step[0] == 3 ? bands[1][step[2] + 1] : bands[0][step[1] + 1];
                sum += prices[1] + Math.abs(one[0] - upper[0] - lower[0]);
                sum += one[1] == upper[1] || one[1] == lower[1] ? 0 : prices[2];
            }
        }
        return sum;
    }
}
