/** The boundary cases of PARTS: Terms, promises 4 and 5. */
public final class PartsEdgesTest {
    public static void main(String[] args) {
        eachOfTheEightAroundHangsTogether();
        twoAwayDoesNotHangTogether();
        rowEndsDoNotHangTogetherWithRowStarts();
        leftAndRightEdgesDoNotHangTogether();
        topAndBottomEdgesDoNotHangTogether();
        partsInTheCorners();
        oneGreyIsASpeck();
        twoGreysAreASpeck();
        threeGreysAreAPart();
        specksHaveNoNumber();
        partsAreToldByTheirFirstGreys();
        armsThatMeetLaterAreOnePart();
        nothingDarkHasNoParts();
        sheetsTooSmallForAPart();
        theGreatestPart();
        theMostParts();
        partsStayWhenTheSheetChanges();
        partsFoundAgainTakeTheirPlace();
        thereIsNoPartBelowZero();
        thereIsNoPartBehindTheLast();
        thereIsNoSuchFact();
        Check.end("PartsEdgesTest");
    }

    private static SheetRows dueParts(String name, int count, String... rows) {
        SheetRows sheet = Check.sheetOf(10, 250, rows);
        Check.due(name + " parts()", sheet.parts(), count);
        Check.due(name + " part(" + count + ", 0)", sheet.part(count, 0), SheetRows.NONE);
        return sheet;
    }

    /** "each with the up to eight around it": two steps, each way. */
    private static void eachOfTheEightAroundHangsTogether() {
        for (int dy = -1; dy <= 1; dy++) {
            for (int dx = -1; dx <= 1; dx++) {
                if (dx != 0 || dy != 0) {
                    SheetRows sheet = new SheetRows(7, 7);
                    sheet.put(3, 3, (byte) 0);
                    sheet.put(3 + dx, 3 + dy, (byte) 0);
                    sheet.put(3 + 2 * dx, 3 + 2 * dy, (byte) 0);
                    String name = "steps by " + dx + ", " + dy;
                    Check.due(name + " parts()", sheet.parts(), 1);
                    Check.duePart(name, sheet, 0, 3 + Math.min(0, 2 * dx), 3 + Math.min(0, 2 * dy),
                        3 + Math.max(0, 2 * dx), 3 + Math.max(0, 2 * dy), 3, 9 + 3 * dx, 9 + 3 * dy);
                }
            }
        }
    }

    private static void twoAwayDoesNotHangTogether() {
        dueParts("two away", 0, "#.#.#", ".....", "#.#.#", ".....", "#.#.#");
        dueParts("a knight's step away", 0, "#....", "..#..", "....#", ".....", ".....");
    }

    /** In the row these stand side by side, on the sheet they do not. */
    private static void rowEndsDoNotHangTogetherWithRowStarts() {
        dueParts("row end and next row's start", 0, "....", "..##", "#...", "....");
        dueParts("row end and the start after the next row's", 0, "...#", "....", "##..", "....");
        dueParts("both ends", 0, "...##", "#....", ".....", "....#", "#....");
    }

    private static void leftAndRightEdgesDoNotHangTogether() {
        dueParts("left and right", 0, "......", "#...##", "......");
        dueParts("left and right, a row apart", 0, "#.....", ".....#", "#.....", "......");
    }

    private static void topAndBottomEdgesDoNotHangTogether() {
        dueParts("top and bottom", 0, "..#..", ".....", "..#..", "..#..");
        dueParts("top and bottom, a column apart", 0, "..#..", ".....", ".....", "...##");
    }

    private static void partsInTheCorners() {
        SheetRows sheet = dueParts("corners", 4,
            "##...##",
            "#.....#",
            ".......",
            "#.....#",
            "##...##");
        Check.duePart("corners", sheet, 0, 0, 0, 1, 1, 3, 1, 1);
        Check.duePart("corners", sheet, 1, 5, 0, 6, 1, 3, 17, 1);
        Check.duePart("corners", sheet, 2, 0, 3, 1, 4, 3, 1, 11);
        Check.duePart("corners", sheet, 3, 5, 3, 6, 4, 3, 17, 11);
    }

    /** "those of less than 3 are SPECKS and do not count" */
    private static void oneGreyIsASpeck() {
        dueParts("one", 0, ".....", "..#..", ".....");
    }

    /** "those of less than 3 are SPECKS and do not count" */
    private static void twoGreysAreASpeck() {
        dueParts("two level", 0, "....", ".##.", "....");
        dueParts("two upright", 0, "....", ".#..", ".#..");
        dueParts("two aslant", 0, "....", ".#..", "..#.");
    }

    private static void threeGreysAreAPart() {
        SheetRows sheet = dueParts("three", 1, ".....", ".##..", "...#.");
        Check.duePart("three", sheet, 0, 1, 1, 3, 2, 3, 6, 4);
    }

    /** "do not count": they leave no gap before, between or behind the parts either. */
    private static void specksHaveNoNumber() {
        SheetRows sheet = dueParts("specks", 2,
            "#...###..",
            "#........",
            "....##..#",
            "........#",
            ".###.....",
            ".......##");
        Check.duePart("specks", sheet, 0, 4, 0, 6, 0, 3, 15, 0);
        Check.duePart("specks", sheet, 1, 1, 4, 3, 4, 3, 6, 12);
    }

    /** "in the order of their first greys in the row": not by least x, nor by where a part ends. */
    private static void partsAreToldByTheirFirstGreys() {
        SheetRows sheet = dueParts("order", 4,
            "........#.",
            "....#...#.",
            "#..#....#.",
            "#.#..#..#.",
            "#....##.#.");
        Check.duePart("order", sheet, 0, 8, 0, 8, 4, 5, 40, 10);
        Check.duePart("order", sheet, 1, 2, 1, 4, 3, 3, 9, 6);
        Check.duePart("order", sheet, 2, 0, 2, 0, 4, 3, 0, 9);
        Check.duePart("order", sheet, 3, 5, 3, 6, 4, 3, 16, 11);
    }

    /** The right arm's first grey comes before another part's, but the part is counted at the left arm's. */
    private static void armsThatMeetLaterAreOnePart() {
        SheetRows sheet = dueParts("arms", 2,
            "..#.....#..",
            "..#.###.#..",
            "..#.....#..",
            "..#######..",
            "...........");
        Check.duePart("arms", sheet, 0, 2, 0, 8, 3, 13, 65, 27);
        Check.duePart("arms", sheet, 1, 4, 1, 6, 1, 3, 15, 3);
    }

    private static void nothingDarkHasNoParts() {
        SheetRows sheet = new SheetRows(48, 48);
        Check.due("bright parts()", sheet.parts(), 0);
        for (int what = 0; what < 7; what++) {
            Check.due("bright part(0, " + what + ")", sheet.part(0, what), SheetRows.NONE);
        }
    }

    private static void sheetsTooSmallForAPart() {
        dueParts("one grey", 0, "#");
        dueParts("two greys", 0, "#.");
        dueParts("one of three", 0, "#..");
        dueParts("two of four", 0, "##", "..");
        SheetRows row = dueParts("three of six in a row", 1, "..###.");
        Check.duePart("three of six in a row", row, 0, 2, 0, 4, 0, 3, 9, 0);
        SheetRows column = dueParts("three of six in a column", 1, ".", ".", ".", "#", "#", "#");
        Check.duePart("three of six in a column", column, 0, 0, 3, 0, 5, 3, 0, 12);
    }

    /** No more than half of the greys are ever dark. */
    private static void theGreatestPart() {
        SheetRows upper = Check.sheetOfOctets(48, 48, 255, 5, 255, 5, 255, 5, 255, 5, 132, 5,
            255, 250, 255, 250, 255, 250, 255, 250, 132, 250);
        Check.due("upper half parts()", upper.parts(), 1);
        Check.duePart("upper half", upper, 0, 0, 0, 47, 23, 1152, 27072, 13248);
        Check.due("side(1)", upper.side(1), 2304);
        Check.due("lower half parts()", upper.parts(), 1);
        Check.duePart("lower half", upper, 0, 0, 24, 47, 47, 1152, 27072, 40896);
    }

    /** Bars of three with one between them, in every second row. */
    private static void theMostParts() {
        SheetRows sheet = new SheetRows(47, 13);
        for (int y = 0; y < 13; y += 2) {
            for (int x = 0; x < 47; x++) {
                if (x % 4 != 3) {
                    sheet.put(x, y, (byte) 0);
                }
            }
        }
        Check.due("bars parts()", sheet.parts(), 84);
        Check.duePart("bars", sheet, 0, 0, 0, 2, 0, 3, 3, 0);
        Check.duePart("bars", sheet, 11, 44, 0, 46, 0, 3, 135, 0);
        Check.duePart("bars", sheet, 12, 0, 2, 2, 2, 3, 3, 6);
        Check.duePart("bars", sheet, 83, 44, 12, 46, 12, 3, 135, 36);
        Check.duePart("bars", sheet, 84, SheetRows.NONE);
    }

    /** "part tells them, until they are found again": after each call that could change what they were found on. */
    private static void partsStayWhenTheSheetChanges() {
        SheetRows sheet = dueParts("stay", 1, "###....", ".......", ".......");
        dueFirstBar("at once", sheet);
        sheet.put(3, 0, (byte) 10);
        dueFirstBar("put", sheet);
        sheet.turn(-64);
        dueFirstBar("turn", sheet);
        sheet.side(0);
        dueFirstBar("side(0)", sheet);
        sheet.side(1);
        dueFirstBar("side(1)", sheet);
        sheet.side(2);
        dueFirstBar("side(2)", sheet);
        sheet.threshold();
        sheet.inverted();
        dueFirstBar("threshold and inverted", sheet);
        sheet.skew();
        dueFirstBar("skew", sheet);
        sheet.pack();
        dueFirstBar("pack", sheet);
        Check.addAll(sheet, 10, 0, 11, 255);
        sheet.unpack();
        dueFirstBar("unpack", sheet);
        sheet.side(3);
        dueFirstBar("side(3)", sheet);
    }

    private static void dueFirstBar(String after, SheetRows sheet) {
        Check.duePart("after " + after, sheet, 0, 0, 0, 2, 0, 3, 3, 0);
        Check.duePart("after " + after, sheet, 1, SheetRows.NONE);
    }

    /** "until they are found again": more of them, fewer, and none. */
    private static void partsFoundAgainTakeTheirPlace() {
        SheetRows sheet = dueParts("again", 1, "###.....", "........", "........", "........");
        for (int x = 4; x < 8; x++) {
            sheet.put(x, 2, (byte) 10);
        }
        Check.due("more parts()", sheet.parts(), 2);
        Check.duePart("more", sheet, 0, 0, 0, 2, 0, 3, 3, 0);
        Check.duePart("more", sheet, 1, 4, 2, 7, 2, 4, 22, 8);
        sheet.put(1, 0, (byte) 250);
        Check.due("fewer parts()", sheet.parts(), 1);
        Check.duePart("fewer", sheet, 0, 4, 2, 7, 2, 4, 22, 8);
        Check.duePart("fewer", sheet, 1, SheetRows.NONE);
        sheet.put(5, 2, (byte) 250);
        Check.due("none parts()", sheet.parts(), 0);
        Check.duePart("none", sheet, 0, SheetRows.NONE);
    }

    /** "NONE when there is none such" */
    private static void thereIsNoPartBelowZero() {
        SheetRows sheet = dueParts("two bars", 2, "###....", ".......", "...####");
        for (int i : new int[] {-1, -2, -7, Integer.MIN_VALUE, -613566756}) {
            for (int what = 0; what < 7; what++) {
                Check.due("part(" + i + ", " + what + ")", sheet.part(i, what), SheetRows.NONE);
            }
        }
    }

    /** "NONE when there is none such": 7 times the last three comes round to 3, to 2 and to 6. */
    private static void thereIsNoPartBehindTheLast() {
        SheetRows sheet = dueParts("two bars", 2, "###....", ".......", "...####");
        for (int i : new int[] {2, 3, 7, 1000, Integer.MAX_VALUE, 613566757, 1840700270, 1227133514}) {
            for (int what = 0; what < 7; what++) {
                Check.due("part(" + i + ", " + what + ")", sheet.part(i, what), SheetRows.NONE);
            }
        }
    }

    /** "or what is none of these": beside 0 .. 6 the next part's or the last part's facts would be told. */
    private static void thereIsNoSuchFact() {
        SheetRows sheet = dueParts("two bars", 2, "###....", ".......", "...####");
        Check.duePart("first bar", sheet, 0, 0, 0, 2, 0, 3, 3, 0);
        Check.duePart("second bar", sheet, 1, 3, 2, 6, 2, 4, 18, 8);
        for (int what : new int[] {-1, -7, 7, 8, 13, Integer.MIN_VALUE, Integer.MAX_VALUE}) {
            Check.due("part(0, " + what + ")", sheet.part(0, what), SheetRows.NONE);
            Check.due("part(1, " + what + ")", sheet.part(1, what), SheetRows.NONE);
        }
    }
}
