/** The boundary cases of sides: promise 12. */
public final class SideEdgesTest {
    public static void main(String[] args) {
        rowsFromTheirEndsWithAnEvenWidth();
        rowsFromTheirEndsWithAnOddWidth();
        rowsFromTheirEndsWithOneColumn();
        rowsFromTheLastWithAnEvenHeight();
        rowsFromTheLastWithAnOddHeight();
        rowsFromTheLastWithOneRow();
        whatTheLeastAndTheMostGreyLack();
        halvedWithEvenSides();
        halvedWithAnOddWidth();
        halvedWithAnOddHeight();
        halvedWithOddSides();
        halvedWithOneColumn();
        halvedWithOneRow();
        halvedWithOneGrey();
        halvedWithTheLargestSides();
        meansAreCut();
        allOthersAre255();
        greysThatStayAreNotCounted();
        noSuchSide();
        Check.end("SideEdgesTest");
    }

    private static void due(int other, int[][] before, int others, int[][] after) {
        String name = "side(" + other + ") of " + before[0].length + " x " + before.length;
        SheetRows sheet = Check.sheetOfGreys(before);
        Check.due(name, sheet.side(other), others);
        Check.dueGreys(name, sheet, after);
    }

    private static void rowsFromTheirEndsWithAnEvenWidth() {
        due(0, new int[][] {{1, 2}, {3, 4}}, 4, new int[][] {{2, 1}, {4, 3}});
        due(0, new int[][] {{1, 2, 3, 4}}, 4, new int[][] {{4, 3, 2, 1}});
    }

    /** The middle column stays. */
    private static void rowsFromTheirEndsWithAnOddWidth() {
        due(0, new int[][] {{1, 2, 3}, {4, 5, 6}}, 4, new int[][] {{3, 2, 1}, {6, 5, 4}});
    }

    private static void rowsFromTheirEndsWithOneColumn() {
        due(0, new int[][] {{1}, {2}, {3}}, 0, new int[][] {{1}, {2}, {3}});
        due(0, new int[][] {{9}}, 0, new int[][] {{9}});
    }

    private static void rowsFromTheLastWithAnEvenHeight() {
        due(1, new int[][] {{1, 2}, {3, 4}}, 4, new int[][] {{3, 4}, {1, 2}});
        due(1, new int[][] {{1}, {2}, {3}, {4}}, 4, new int[][] {{4}, {3}, {2}, {1}});
    }

    /** The middle row stays. */
    private static void rowsFromTheLastWithAnOddHeight() {
        due(1, new int[][] {{1, 2}, {3, 4}, {5, 6}}, 4, new int[][] {{5, 6}, {3, 4}, {1, 2}});
    }

    private static void rowsFromTheLastWithOneRow() {
        due(1, new int[][] {{1, 2, 3}}, 0, new int[][] {{1, 2, 3}});
        due(1, new int[][] {{9}}, 0, new int[][] {{9}});
    }

    /** "each grey what it lacks to 255": no grey lacks itself, so all become others. */
    private static void whatTheLeastAndTheMostGreyLack() {
        due(2, new int[][] {{0, 255, 127}, {128, 1, 254}}, 6, new int[][] {{255, 0, 128}, {127, 254, 1}});
        due(2, new int[][] {{0}}, 1, new int[][] {{255}});
        Check.due("side(2) of 48 x 48", new SheetRows(48, 48).side(2), 2304);
    }

    /** "x below W / 2 and y below H / 2" */
    private static void halvedWithEvenSides() {
        due(3, new int[][] {{4, 4}, {8, 8}}, 4, new int[][] {{6, 255}, {255, 255}});
        due(3, new int[][] {{1, 1, 2, 2}, {1, 1, 2, 2}, {3, 3, 4, 4}, {3, 3, 4, 4}}, 15,
            new int[][] {{1, 2, 255, 255}, {3, 4, 255, 255}, {255, 255, 255, 255}, {255, 255, 255, 255}});
    }

    /** "(cut)": the last column is read by none and is 255. */
    private static void halvedWithAnOddWidth() {
        due(3, new int[][] {{10, 20, 1}, {30, 40, 2}}, 6, new int[][] {{25, 255, 255}, {255, 255, 255}});
        due(3, new int[][] {{10, 20, 1, 2, 90}, {30, 40, 3, 6, 90}}, 10,
            new int[][] {{25, 3, 255, 255, 255}, {255, 255, 255, 255, 255}});
    }

    /** "(cut)": the last row is read by none and is 255. */
    private static void halvedWithAnOddHeight() {
        due(3, new int[][] {{10, 20}, {30, 40}, {1, 2}}, 6, new int[][] {{25, 255}, {255, 255}, {255, 255}});
        due(3, new int[][] {{10, 20}, {30, 40}, {1, 2}, {3, 6}, {90, 90}}, 10,
            new int[][] {{25, 255}, {3, 255}, {255, 255}, {255, 255}, {255, 255}});
    }

    private static void halvedWithOddSides() {
        due(3, new int[][] {{10, 20, 7}, {30, 40, 7}, {7, 7, 7}}, 9,
            new int[][] {{25, 255, 255}, {255, 255, 255}, {255, 255, 255}});
    }

    private static void halvedWithOneColumn() {
        due(3, new int[][] {{1}, {2}}, 2, new int[][] {{255}, {255}});
        due(3, new int[][] {{1}, {255}, {3}, {4}}, 3, new int[][] {{255}, {255}, {255}, {255}});
    }

    private static void halvedWithOneRow() {
        due(3, new int[][] {{1, 2}}, 2, new int[][] {{255, 255}});
        due(3, new int[][] {{1, 255, 3, 4}}, 3, new int[][] {{255, 255, 255, 255}});
    }

    private static void halvedWithOneGrey() {
        due(3, new int[][] {{9}}, 1, new int[][] {{255}});
        due(3, new int[][] {{255}}, 0, new int[][] {{255}});
    }

    /** Half of 48 and half of 47 are 24 and 23: behind them, in each direction, the sheet is 255. */
    private static void halvedWithTheLargestSides() {
        for (int side : new int[] {48, 47}) {
            SheetRows sheet = new SheetRows(side, side);
            sheet.side(2);
            int half = side / 2;
            Check.due("side(3) of " + side, sheet.side(3), side * side - half * half);
            Check.due("grey(half - 1, half - 1) of " + side, sheet.grey(half - 1, half - 1), 0);
            Check.due("grey(half, half - 1) of " + side, sheet.grey(half, half - 1), 255);
            Check.due("grey(half - 1, half) of " + side, sheet.grey(half - 1, half), 255);
            Check.due("grey(0, half - 1) of " + side, sheet.grey(0, half - 1), 0);
            Check.due("grey(side - 1, side - 1) of " + side, sheet.grey(side - 1, side - 1), 255);
        }
    }

    /** "the mean (cut) of the four greys" */
    private static void meansAreCut() {
        due(3, new int[][] {{0, 0}, {0, 3}}, 3, new int[][] {{0, 255}, {255, 255}});
        due(3, new int[][] {{1, 1}, {1, 4}}, 3, new int[][] {{1, 255}, {255, 255}});
        due(3, new int[][] {{255, 255}, {255, 252}}, 2, new int[][] {{254, 255}, {255, 255}});
        due(3, new int[][] {{255, 255}, {255, 255}}, 0, new int[][] {{255, 255}, {255, 255}});
        due(3, new int[][] {{128, 128}, {127, 128}}, 4, new int[][] {{127, 255}, {255, 255}});
    }

    /** "all others 255": the halves of halves leave nothing of what was there before. */
    private static void allOthersAre255() {
        SheetRows sheet = Check.sheetOf(0, 0, "....", "....", "....", "....");
        Check.due("first side(3)", sheet.side(3), 12);
        Check.due("second side(3)", sheet.side(3), 3);
        Check.due("third side(3)", sheet.side(3), 1);
        Check.dueOctets("three times side(3)", sheet, 1, 191, 15, 255);
    }

    /** "How many greys have become others" */
    private static void greysThatStayAreNotCounted() {
        due(0, new int[][] {{1, 2, 1}, {3, 3, 4}}, 2, new int[][] {{1, 2, 1}, {4, 3, 3}});
        due(1, new int[][] {{1, 2}, {1, 3}}, 2, new int[][] {{1, 3}, {1, 2}});
        due(3, new int[][] {{5, 255}, {4, 255}}, 2, new int[][] {{129, 255}, {255, 255}});
    }

    /** "NONE when other is none of these" */
    private static void noSuchSide() {
        int[][] greys = {{1, 2, 3}, {4, 5, 6}};
        for (int other : new int[] {-1, -2, 4, 5, 7, 8, 256, 259, 65536, Integer.MIN_VALUE, Integer.MAX_VALUE}) {
            due(other, greys, SheetRows.NONE, greys);
        }
    }
}
