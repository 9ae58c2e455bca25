/** The boundary cases of a SHEAR: Terms, promise 7. */
public final class TurnEdgesTest {
    public static void main(String[] args) {
        oneHundredEachWayIsTaken();
        beyondOneHundredIsRefused();
        wholeStepsAreNotRounded();
        partsOfStepsAreRoundedDown();
        theLastRowComesToTheFirst();
        theFirstRowComesToTheLast();
        greysComeRoundMoreThanOnce();
        oneRowStays();
        oneColumnStays();
        theFirstColumnStays();
        likeGreysAreNoOthers();
        allButTheFirstColumnMayBecomeOthers();
        Check.end("TurnEdgesTest");
    }

    /** A grey alone on a sheet of 48 rows: where it comes to. */
    private static void dueRow(int b, int x, int y, int toY) {
        SheetRows sheet = new SheetRows(48, 48);
        sheet.put(x, y, (byte) 7);
        String name = "turn(" + b + ") of " + x + ", " + y;
        Check.due(name, sheet.turn(b), y == toY ? 0 : 2);
        Check.due("after " + name + " grey(" + x + ", " + toY + ")", sheet.grey(x, toY), 7);
        if (y != toY) {
            Check.due("after " + name + " grey(" + x + ", " + y + ")", sheet.grey(x, y), 255);
        }
    }

    /** "b is not -100 .. 100": 100 x 16 / 32 is 50, 100 x 47 / 32 is 146, and their like below 0 are -50 and -147. */
    private static void oneHundredEachWayIsTaken() {
        dueRow(100, 16, 0, 2);
        dueRow(100, 47, 0, 2);
        dueRow(-100, 16, 0, 46);
        dueRow(-100, 47, 0, 45);
        dueRow(99, 32, 0, 3);
        dueRow(-99, 32, 3, 0);
    }

    /** "NONE, and nothing changes, when b is not -100 .. 100" */
    private static void beyondOneHundredIsRefused() {
        int[][] greys = {{1, 2, 3}, {4, 5, 6}, {7, 8, 9}, {10, 11, 12}};
        for (int b : new int[] {101, -101, 102, -102, 128, -128, 356, -156, 1 << 20, Integer.MAX_VALUE,
            Integer.MIN_VALUE, Integer.MIN_VALUE + 1}) {
            SheetRows sheet = Check.sheetOfGreys(greys);
            Check.due("turn(" + b + ")", sheet.turn(b), SheetRows.NONE);
            Check.dueGreys("turn(" + b + ")", sheet, greys);
        }
    }

    private static void wholeStepsAreNotRounded() {
        dueRow(32, 1, 10, 11);
        dueRow(-32, 1, 10, 9);
        dueRow(1, 32, 10, 11);
        dueRow(-1, 32, 10, 9);
        dueRow(-16, 4, 10, 8);
        dueRow(0, 47, 10, 10);
    }

    /** "y + (b x) / 32 (rounded down)" */
    private static void partsOfStepsAreRoundedDown() {
        dueRow(1, 31, 10, 10);
        dueRow(-1, 31, 10, 9);
        dueRow(1, 1, 10, 10);
        dueRow(-1, 1, 10, 9);
        dueRow(31, 1, 10, 10);
        dueRow(-31, 1, 10, 9);
        dueRow(33, 1, 10, 11);
        dueRow(-33, 1, 10, 8);
        dueRow(1, 33, 10, 11);
        dueRow(-1, 33, 10, 8);
        dueRow(-1, 1, 0, 47);
    }

    /** "brought into 0 .. H - 1 by adding or taking away H" */
    private static void theLastRowComesToTheFirst() {
        dueRow(32, 1, 46, 47);
        dueRow(32, 1, 47, 0);
        dueRow(32, 2, 47, 1);
        dueRow(32, 47, 0, 47);
        dueRow(32, 47, 1, 0);
    }

    /** "brought into 0 .. H - 1 by adding or taking away H" */
    private static void theFirstRowComesToTheLast() {
        dueRow(-32, 1, 1, 0);
        dueRow(-32, 1, 0, 47);
        dueRow(-32, 2, 0, 46);
        dueRow(-32, 47, 47, 0);
        dueRow(-32, 47, 46, 47);
    }

    /** At x = 47, by 100: 146, on three rows the same as 2; by -100: -147, by -98: -144, as 0; by -99: -146, as 1. */
    private static void greysComeRoundMoreThanOnce() {
        SheetRows down = threeRows();
        down.turn(100);
        Check.due("turn(100) grey(47, 2)", down.grey(47, 2), 1);
        Check.due("turn(100) grey(47, 0)", down.grey(47, 0), 2);
        Check.due("turn(100) grey(47, 1)", down.grey(47, 1), 3);
        SheetRows up = threeRows();
        up.turn(-100);
        Check.due("turn(-100) grey(47, 0)", up.grey(47, 0), 1);
        Check.due("turn(-100) grey(47, 1)", up.grey(47, 1), 2);
        Check.due("turn(-100) grey(47, 2)", up.grey(47, 2), 3);
        up.turn(-98);
        Check.due("turn(-98) grey(47, 0)", up.grey(47, 0), 1);
        up.turn(-99);
        Check.due("turn(-99) grey(47, 1)", up.grey(47, 1), 1);
    }

    private static SheetRows threeRows() {
        return Check.sheetOfOctets(48, 3, 48, 1, 48, 2, 48, 3);
    }

    private static void oneRowStays() {
        int[] row = new int[48];
        for (int x = 0; x < 48; x++) {
            row[x] = 5 * x;
        }
        SheetRows sheet = Check.sheetOfGreys(new int[][] {row});
        for (int b : new int[] {-100, -1, 0, 1, 33, 100}) {
            Check.due("one row turn(" + b + ")", sheet.turn(b), 0);
        }
        Check.dueGreys("turns of one row", sheet, new int[][] {row});
    }

    private static void oneColumnStays() {
        int[][] column = {{1}, {2}, {3}, {4}};
        SheetRows sheet = Check.sheetOfGreys(column);
        for (int b : new int[] {-100, -1, 0, 1, 33, 100}) {
            Check.due("one column turn(" + b + ")", sheet.turn(b), 0);
        }
        Check.dueGreys("turns of one column", sheet, column);
    }

    private static void theFirstColumnStays() {
        for (int b : new int[] {-100, -1, 1, 100}) {
            dueRow(b, 0, 0, 0);
            dueRow(b, 0, 47, 47);
        }
    }

    /** "how many greys have become others": those that have moved to a like one's place have not. */
    private static void likeGreysAreNoOthers() {
        Check.due("like greys turn(100)", new SheetRows(48, 48).turn(100), 0);
        SheetRows columns = Check.sheetOfGreys(new int[][] {{1, 2, 3}, {1, 2, 3}, {1, 2, 3}});
        Check.due("like columns turn(-32)", columns.turn(-32), 0);
        SheetRows sheet = Check.sheetOfGreys(new int[][] {{1, 9, 3}, {1, 2, 3}, {1, 9, 3}});
        Check.due("one column's greys turn(32)", sheet.turn(32), 2);
        Check.dueGreys("one column's greys turn(32)", sheet, new int[][] {{1, 9, 3}, {1, 9, 3}, {1, 2, 3}});
    }

    private static void allButTheFirstColumnMayBecomeOthers() {
        SheetRows sheet = Check.sheetOfGreys(new int[][] {{1, 2, 3}, {4, 5, 6}});
        Check.due("turn(-1)", sheet.turn(-1), 4);
        Check.dueGreys("turn(-1)", sheet, new int[][] {{1, 5, 6}, {4, 2, 3}});
    }
}
