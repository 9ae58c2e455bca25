/** The boundary cases of THE LEAN: Terms, promise 6. */
public final class LeanEdgesTest {
    public static void main(String[] args) {
        theLeastLeanIsEightBelowZero();
        theGreatestLeanIsEight();
        leansBeyondEightAreNotTried();
        everyLeanBetweenIsFound();
        theOneNearestToZeroIsTold();
        ofTwoAsNearTheOneBelowZeroIsTold();
        zeroIsToldWhenNoneIsBetter();
        leansAreRoundedDown();
        darkGreysComeRoundTheSheet();
        longRowsCountByTheirSquares();
        darkAreTheHighOnesOfInvertedSheets();
        theSheetStays();
        Check.end("LeanEdgesTest");
    }

    /** Two dark greys, at 0, y and at 32, otherY: a shear by b moves the second one by b and the first by nothing. */
    private static SheetRows twoDark(int height, int y, int otherY) {
        SheetRows sheet = new SheetRows(33, height);
        sheet.put(0, y, (byte) 0);
        sheet.put(32, otherY, (byte) 0);
        return sheet;
    }

    private static void due(int lean, int height, int y, int otherY) {
        String name = "dark at 0, " + y + " and 32, " + otherY + " of " + height + " rows: skew()";
        Check.due(name, twoDark(height, y, otherY).skew(), lean);
    }

    /** "of b from -8 to 8" */
    private static void theLeastLeanIsEightBelowZero() {
        due(-8, 48, 0, 8);
        due(-8, 48, 39, 47);
    }

    /** "of b from -8 to 8" */
    private static void theGreatestLeanIsEight() {
        due(8, 48, 8, 0);
        due(8, 48, 47, 39);
    }

    /** "of b from -8 to 8": by none of these the two come to one row. */
    private static void leansBeyondEightAreNotTried() {
        due(0, 48, 0, 9);
        due(0, 48, 9, 0);
        due(0, 48, 0, 24);
        due(0, 48, 40, 20);
    }

    private static void everyLeanBetweenIsFound() {
        for (int b = -8; b <= 8; b++) {
            due(b, 48, 20 + b, 20);
        }
    }

    /** "of these the one nearest to 0": on 8 rows b and b - 8 do the same, on 11 rows b and b - 11. */
    private static void theOneNearestToZeroIsTold() {
        due(3, 8, 3, 0);
        due(-3, 8, 0, 3);
        due(1, 8, 1, 0);
        due(-1, 8, 0, 1);
        due(0, 8, 5, 5);
        due(5, 11, 5, 0);
        due(-5, 11, 0, 5);
    }

    /** "of two such that below 0": 1 as -1 on 2 rows, 4 as -4 on 8 rows, 8 as -8 on 16 rows. */
    private static void ofTwoAsNearTheOneBelowZeroIsTold() {
        due(-1, 2, 0, 1);
        due(-1, 2, 1, 0);
        due(-2, 4, 0, 2);
        due(-4, 8, 4, 0);
        due(-4, 8, 0, 4);
        due(-8, 16, 0, 8);
        due(-8, 16, 8, 0);
    }

    private static void zeroIsToldWhenNoneIsBetter() {
        Check.due("bright skew()", new SheetRows(48, 48).skew(), 0);
        Check.due("one grey skew()", new SheetRows(1, 1).skew(), 0);
        Check.due("one row skew()", Check.sheetOf(0, 255, "#.##....").skew(), 0);
        Check.due("one column skew()", Check.sheetOf(0, 255, "#", ".", "#", ".", ".").skew(), 0);
        Check.due("one dark grey skew()", Check.sheetOf(0, 255, "....", "...#", "....").skew(), 0);
        Check.due("level skew()", Check.sheetOf(0, 255, "....", "####", "....").skew(), 0);
    }

    /** "(b x) / 32 (rounded down)": at x = 1 by -1 for every b below 0, by nothing for every other. */
    private static void leansAreRoundedDown() {
        Check.due("falling by one skew()", Check.sheetOf(0, 255, "#...", ".#..", "....", "....").skew(), -1);
        Check.due("rising by one skew()", Check.sheetOf(0, 255, ".#..", "#...", "....", "....").skew(), 0);
        // At x = 4 by 1 for 8 alone, by -1 for each of -8 .. -1.
        Check.due("rising at 4 skew()", Check.sheetOf(0, 255, "....#", "#....", ".....", ".....").skew(), 8);
        Check.due("falling at 4 skew()", Check.sheetOf(0, 255, "#....", "....#", ".....", ".....").skew(), -1);
        // At x = 5 by 1 from 7 on.
        Check.due("rising at 5 skew()", Check.sheetOf(0, 255, ".....#", "#.....", "......", "......").skew(), 7);
    }

    /** "brought into 0 .. H - 1": the second one leaves the sheet below, or above, and comes to the first one's row. */
    private static void darkGreysComeRoundTheSheet() {
        due(1, 20, 0, 19);
        due(-1, 20, 19, 0);
        due(8, 20, 2, 14);
        due(-8, 20, 14, 2);
        // By -7 the grey at 47 moves by -11: on 10 rows it comes round twice, to row 9.
        SheetRows up = new SheetRows(48, 10);
        up.put(47, 0, (byte) 0);
        up.put(0, 9, (byte) 0);
        Check.due("twice round above skew()", up.skew(), -7);
        // By 7 the greys at 20 and 32 move by 4 and by 7: on 5 rows the second comes round twice, both to row 1.
        SheetRows down = new SheetRows(33, 5);
        down.put(0, 1, (byte) 0);
        down.put(20, 2, (byte) 0);
        down.put(32, 4, (byte) 0);
        Check.due("twice round below skew()", down.skew(), 7);
    }

    /** "the sum .. of the square": by 5 one row has six dark greys, by 3 two rows have five, and that is the more. */
    private static void longRowsCountByTheirSquares() {
        SheetRows sheet = new SheetRows(36, 40);
        putBar(sheet, 0, 10, 4);
        putBar(sheet, 0, 20, 3);
        putBar(sheet, 0, 21, 3);
        putBar(sheet, 32, 5, 2);
        putBar(sheet, 32, 17, 2);
        putBar(sheet, 32, 18, 2);
        Check.due("bars skew()", sheet.skew(), 3);
    }

    private static void putBar(SheetRows sheet, int x, int y, int length) {
        for (int i = 0; i < length; i++) {
            sheet.put(x + i, y, (byte) 0);
        }
    }

    private static void darkAreTheHighOnesOfInvertedSheets() {
        SheetRows sheet = twoDark(16, 5, 2);
        Check.due("skew()", sheet.skew(), 3);
        Check.due("side(2)", sheet.side(2), 33 * 16);
        Check.due("inverted()", sheet.inverted(), true);
        Check.due("inverted skew()", sheet.skew(), 3);
    }

    private static void theSheetStays() {
        SheetRows sheet = twoDark(5, 3, 1);
        Check.due("skew()", sheet.skew(), 2);
        Check.due("skew() again", sheet.skew(), 2);
        Check.due("grey(0, 3)", sheet.grey(0, 3), 0);
        Check.due("grey(32, 1)", sheet.grey(32, 1), 0);
        Check.dueOctets("after skew()", sheet, 65, 255, 1, 0, 33, 255, 1, 0, 65, 255);
    }
}
