/** Promises 4 and 5: parts, part. */
public final class PartsTest {
    public static void main(String[] args) {
        partsAreToldInOrderWithTheirBoxes();
        cornersHangTogether();
        edgesDoNotHangTogetherRoundTheSheet();
        specksDoNotCount();
        windingPartIsOne();
        highOnesAreDarkOnInvertedSheets();
        partsStayUntilFoundAgain();
        noSuchPart();
        manyParts();
        aLargePart();
        Check.end("PartsTest");
    }

    /** The part whose first grey comes first is the first, even if another one has a lesser x. */
    private static void partsAreToldInOrderWithTheirBoxes() {
        SheetRows sheet = Check.sheetOf(20, 200,
            "......#..",
            "#.....#..",
            "#....##..",
            "##......#",
            "..#....##");
        Check.due("order parts()", sheet.parts(), 3);
        Check.duePart("order", sheet, 0, 5, 0, 6, 2, 4, 23, 5);
        Check.duePart("order", sheet, 1, 0, 1, 2, 4, 5, 3, 13);
        Check.duePart("order", sheet, 2, 7, 3, 8, 4, 3, 23, 11);
        Check.due("order part(3, 0)", sheet.part(3, 0), SheetRows.NONE);
    }

    private static void cornersHangTogether() {
        SheetRows falling = Check.sheetOf(0, 255, "#...", ".#..", "..#.", "....");
        Check.due("falling parts()", falling.parts(), 1);
        Check.duePart("falling", falling, 0, 0, 0, 2, 2, 3, 3, 3);
        SheetRows rising = Check.sheetOf(0, 255, "..#.", ".#..", "#...", "....");
        Check.due("rising parts()", rising.parts(), 1);
        Check.duePart("rising", rising, 0, 0, 0, 2, 2, 3, 3, 3);
    }

    private static void edgesDoNotHangTogetherRoundTheSheet() {
        SheetRows sheet = Check.sheetOf(0, 255,
            "....##",
            "#....#",
            "#.....",
            "#.....");
        Check.due("edges parts()", sheet.parts(), 2);
        Check.duePart("edges", sheet, 0, 4, 0, 5, 1, 3, 14, 1);
        Check.duePart("edges", sheet, 1, 0, 1, 0, 3, 3, 0, 6);
        SheetRows top = Check.sheetOf(0, 255, "#....", ".....", ".....", "##...");
        Check.due("top and bottom parts()", top.parts(), 0);
    }

    private static void specksDoNotCount() {
        SheetRows sheet = Check.sheetOf(1, 254,
            "#..##...#",
            "........#",
            "##......#",
            "...##....",
            "#..#.....");
        Check.due("specks parts()", sheet.parts(), 2);
        Check.duePart("specks", sheet, 0, 8, 0, 8, 2, 3, 24, 3);
        Check.duePart("specks", sheet, 1, 3, 3, 4, 4, 3, 10, 10);
    }

    private static void windingPartIsOne() {
        SheetRows sheet = Check.sheetOf(30, 220,
            "...........",
            ".#.#.#.#.#.",
            ".#.#.#.#.#.",
            "..#...#...#",
            "...........",
            "#..........",
            "#..........");
        Check.due("winding parts()", sheet.parts(), 3);
        Check.duePart("winding", sheet, 0, 1, 1, 3, 3, 5, 10, 9);
        Check.duePart("winding", sheet, 1, 5, 1, 7, 3, 5, 30, 9);
        Check.duePart("winding", sheet, 2, 9, 1, 10, 3, 3, 28, 6);
    }

    private static void highOnesAreDarkOnInvertedSheets() {
        SheetRows sheet = Check.sheetOf(240, 10, "##....", "#.....", "......");
        Check.due("inverted()", sheet.inverted(), true);
        Check.due("inverted parts()", sheet.parts(), 1);
        Check.duePart("inverted", sheet, 0, 0, 0, 1, 1, 3, 1, 1);
        SheetRows half = Check.sheetOf(240, 10, "###", "...");
        Check.due("half parts()", half.parts(), 1);
        Check.duePart("half", half, 0, 0, 1, 2, 1, 3, 3, 3);
        Check.due("all 255 parts()", new SheetRows(5, 5).parts(), 0);
        Check.due("all 0 parts()", Check.sheetOf(0, 0, "....", "....").parts(), 0);
    }

    private static void partsStayUntilFoundAgain() {
        SheetRows sheet = Check.sheetOf(0, 255, "###....", ".......");
        Check.due("before parts: part(0, 4)", sheet.part(0, 4), SheetRows.NONE);
        Check.due("parts()", sheet.parts(), 1);
        sheet.put(3, 0, (byte) 0);
        Check.duePart("after put", sheet, 0, 0, 0, 2, 0, 3, 3, 0);
        sheet.side(1);
        sheet.turn(32);
        sheet.turn(-32);
        sheet.skew();
        sheet.threshold();
        sheet.inverted();
        sheet.pack();
        sheet.unpack();
        Check.duePart("after others", sheet, 0, 0, 0, 2, 0, 3, 3, 0);
        Check.due("parts() again", sheet.parts(), 1);
        Check.duePart("again", sheet, 0, 0, 1, 3, 1, 4, 6, 4);
        sheet.side(3);
        Check.due("parts() on a bright sheet", sheet.parts(), 0);
        Check.due("part(0, 0) on a bright sheet", sheet.part(0, 0), SheetRows.NONE);
    }

    private static void noSuchPart() {
        SheetRows sheet = Check.sheetOf(0, 255, "###....", ".......", "...####");
        Check.due("parts()", sheet.parts(), 2);
        int[] wrong = {-1, 2, 3, 7, 100, 613566757, 306783379, Integer.MIN_VALUE, Integer.MAX_VALUE};
        for (int i : wrong) {
            Check.due("part(" + i + ", 0)", sheet.part(i, 0), SheetRows.NONE);
        }
        for (int what : new int[] {-1, -7, 7, 8, Integer.MIN_VALUE, Integer.MAX_VALUE}) {
            Check.due("part(0, " + what + ")", sheet.part(0, what), SheetRows.NONE);
            Check.due("part(1, " + what + ")", sheet.part(1, what), SheetRows.NONE);
        }
    }

    /** Three dark rows of each eight, and each column then four further down than the one before: upright bars. */
    private static void manyParts() {
        SheetRows sheet = new SheetRows(48, 48);
        for (int bars = 0; bars < 6; bars++) {
            Check.addAll(sheet, 144, 0, 240, 255);
        }
        Check.due("dark rows unpack()", sheet.unpack(), 1);
        Check.due("dark rows parts()", sheet.parts(), 6);
        sheet.turn(64);
        sheet.turn(64);
        Check.due("many parts()", sheet.parts(), 288);
        for (int i : new int[] {0, 1, 23, 24, 47, 48, 100, 200, 286, 287}) {
            int x = 2 * (i % 24) + i / 24 % 2;
            int y = 4 * (i / 24);
            Check.duePart("many", sheet, i, x, y, x, y + 2, 3, 3 * x, 3 * y + 3);
        }
        Check.due("many part(288, 0)", sheet.part(288, 0), SheetRows.NONE);
    }

    private static void aLargePart() {
        SheetRows sheet = Check.sheetOfOctets(48, 48, 240, 0, 240, 0, 240, 0, 240, 0, 192, 0,
            240, 255, 240, 255, 240, 255, 240, 255, 192, 255);
        Check.due("large parts()", sheet.parts(), 1);
        Check.duePart("large", sheet, 0, 0, 0, 47, 23, 1152, 27072, 13248);
    }
}
