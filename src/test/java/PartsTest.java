/** Promises 4 and 5: parts, part. */
public final class PartsTest {
    public static void main(String[] args) {
        partsAreToldInOrderWithTheirBoxes();
        cornersHangTogether();
        edgesDoNotHangTogetherRoundTheSheet();
        specksDoNotCount();
        windingPartIsOne();
        highOnesAreDarkOnInvertedSheets();
        partsStayUntilFoundAgain();
        noSuchPart();
        manyPartsAndLargeParts();
        Check.end("PartsTest");
    }

    /** The part whose first grey comes first is the first, even if another one has a lesser x. */
    private static void partsAreToldInOrderWithTheirBoxes() {
        SheetRows sheet = Check.sheetOf(20, 200,
            "......#..",
            "#.....#..",
            "#....##..",
            "##......#",
            "..#....##");
        Check.due("order parts()", sheet.parts(), 3);
        Check.duePart("order", sheet, 0, 5, 0, 6, 2, 4, 23, 5);
        Check.duePart("order", sheet, 1, 0, 1, 2, 4, 5, 3, 13);
        Check.duePart("order", sheet, 2, 7, 3, 8, 4, 3, 23, 11);
        Check.due("order part(3, 0)", sheet.part(3, 0), SheetRows.NONE);
    }

    private static void cornersHangTogether() {
        SheetRows falling = Check.sheetOf(0, 255, "#...", ".#..", "..#.", "....");
        Check.due("falling parts()", falling.parts(), 1);
        Check.duePart("falling", falling, 0, 0, 0, 2, 2, 3, 3, 3);
        SheetRows rising = Check.sheetOf(0, 255, "..#.", ".#..", "#...", "....");
        Check.due("rising parts()", rising.parts(), 1);
        Check.duePart("rising", rising, 0, 0, 0, 2, 2, 3, 3, 3);
    }

    private static void edgesDoNotHangTogetherRoundTheSheet() {
        SheetRows sheet = Check.sheetOf(0, 255,
            "....##",
            "#....#",
            "#.....",
            "#.....");
        Check.due("edges parts()", sheet.parts(), 2);
        Check.duePart("edges", sheet, 0, 4, 0, 5, 1, 3, 14, 1);
        Check.duePart("edges", sheet, 1, 0, 1, 0, 3, 3, 0, 6);
        SheetRows top = Check.sheetOf(0, 255, "#....", ".....", ".....", "##...");
        Check.due("top and bottom parts()", top.parts(), 0);
    }

    private static void specksDoNotCount() {
        SheetRows sheet = Check.sheetOf(1, 254,
            "#..##...#",
            "........#",
            "##......#",
            "...##....",
            "#..#.....");
        Check.due("specks parts()", sheet.parts(), 2);
        Check.duePart("specks", sheet, 0, 8, 0, 8, 2, 3, 24, 3);
        Check.duePart("specks", sheet, 1, 3, 3, 4, 4, 3, 10, 10);
    }

    private static void windingPartIsOne() {
        SheetRows sheet = Check.sheetOf(30, 220,
            "...........",
            ".#.#.#.#.#.",
            ".#.#.#.#.#.",
            "..#...#...#",
            "...........",
            "#..........",
            "#..........");
        Check.due("winding parts()", sheet.parts(), 3);
        Check.duePart("winding", sheet, 0, 1, 1, 3, 3, 5, 10, 9);
        Check.duePart("winding", sheet, 1, 5, 1, 7, 3, 5, 30, 9);
        Check.duePart("winding", sheet, 2, 9, 1, 10, 3, 3, 28, 6);
    }

    private static void highOnesAreDarkOnInvertedSheets() {
        SheetRows sheet = Check.sheetOf(240, 10, "##....", "#.....", "......");
        Check.due("inverted()", sheet.inverted(), true);
        Check.due("inverted parts()", sheet.parts(), 1);
        Check.duePart("inverted", sheet, 0, 0, 0, 1, 1, 3, 1, 1);
        SheetRows half = Check.sheetOf(240, 10, "###", "...");
        Check.due("half parts()", half.parts(), 1);
        Check.duePart("half", half, 0, 0, 1, 2, 1, 3, 3, 3);
        Check.due("all 255 parts()", new SheetRows(5, 5).parts(), 0);
        Check.due("all 0 parts()", Check.sheetOf(0, 0, "....", "....").parts(), 0);
    }

    private static void partsStayUntilFoundAgain() {
        SheetRows sheet = Check.sheetOf(0, 255, "###....", ".......");
        Check.due("before parts: part(0, 4)", sheet.part(0, 4), SheetRows.NONE);
        Check.due("parts()", sheet.parts(), 1);
        sheet.put(3, 0, (byte) 0);
        Check.duePart("after put", sheet, 0, 0, 0, 2, 0, 3, 3, 0);
        sheet.side(1);
        sheet.turn(32);
        sheet.turn(-32);
        sheet.skew();
        sheet.threshold();
        sheet.inverted();
        sheet.pack();
        sheet.unpack();
        Check.duePart("after others", sheet, 0, 0, 0, 2, 0, 3, 3, 0);
        Check.due("parts() again", sheet.parts(), 1);
        Check.duePart("again", sheet, 0, 0, 1, 3, 1, 4, 6, 4);
        sheet.side(3);
        Check.due("parts() on a bright sheet", sheet.parts(), 0);
        Check.due("part(0, 0) on a bright sheet", sheet.part(0, 0), SheetRows.NONE);
    }

    private static void noSuchPart() {
        SheetRows sheet = Check.sheetOf(0, 255, "###....", ".......", "...####");
        Check.due("parts()", sheet.parts(), 2);
        int[] wrong = {-1, 2, 3, 7, 100, 613566757, 306783379, Integer.MIN_VALUE, Integer.MAX_VALUE};
        for (int i : wrong) {
            Check.due("part(" + i + ", 0)", sheet.part(i, 0), SheetRows.NONE);
        }
        for (int what : new int[] {-1, -7, 7, 8, Integer.MIN_VALUE, Integer.MAX_VALUE}) {
            Check.due("part(0, " + what + ")", sheet.part(0, what), SheetRows.NONE);
            Check.due("part(1, " + what + ")", sheet.part(1, what), SheetRows.NONE);
        }
    }

    private static void manyPartsAndLargeParts() {
        SheetRows many = new SheetRows(48, 48);
        SheetRows large = new SheetRows(48, 48);
        for (int y = 0; y < 48; y++) {
            for (int x = 0; x < 48; x++) {
                if (y % 2 == 0 && x % 4 != 3) {
                    many.put(x, y, (byte) 0);
                }
                if (y < 24) {
                    large.put(x, y, (byte) 0);
                }
            }
        }
        Check.due("many parts()", many.parts(), 288);
        Check.duePart("many", many, 287, 44, 46, 46, 46, 3, 135, 138);
        Check.due("many part(288, 0)", many.part(288, 0), SheetRows.NONE);
        Check.due("large parts()", large.parts(), 1);
        Check.duePart("large", large, 0, 0, 0, 47, 23, 1152, 27072, 13248);
    }
}
