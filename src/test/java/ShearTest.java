/** Promises 6 and 7: skew, turn. */
public final class ShearTest {
    public static void main(String[] args) {
        turnMovesColumnsDown();
        turnRoundsDownBelowZero();
        turnGoesRoundLowSheets();
        turnCountsOthersAlone();
        turnRefusesFarShears();
        skewFindsTheLean();
        skewOfEqualOnes();
        skewOfInvertedSheets();
        skewChangesNothing();
        Check.end("ShearTest");
    }

    private static void turnMovesColumnsDown() {
        SheetRows sheet = Check.sheetOfGreys(new int[][] {{1, 2, 3, 4}, {5, 6, 7, 8}, {9, 10, 11, 12}});
        Check.due("turn(16)", sheet.turn(16), 6);
        Check.dueGreys("turn(16)", sheet, new int[][] {{1, 2, 11, 12}, {5, 6, 3, 4}, {9, 10, 7, 8}});
        Check.due("turn(-32)", sheet.turn(-32), 6);
        Check.dueGreys("turn(-32)", sheet, new int[][] {{1, 6, 7, 12}, {5, 10, 11, 4}, {9, 2, 3, 8}});
        Check.due("turn(0)", sheet.turn(0), 0);
    }

    /** -1 x / 32 is -1 for every x from 1 on. */
    private static void turnRoundsDownBelowZero() {
        SheetRows sheet = Check.sheetOfGreys(new int[][] {{1, 2, 3}, {4, 5, 6}, {7, 8, 9}});
        Check.due("turn(-1)", sheet.turn(-1), 6);
        Check.dueGreys("turn(-1)", sheet, new int[][] {{1, 5, 6}, {4, 8, 9}, {7, 2, 3}});
        Check.due("turn(1)", sheet.turn(1), 0);
        Check.dueGreys("turn(1)", sheet, new int[][] {{1, 5, 6}, {4, 8, 9}, {7, 2, 3}});
        Check.due("turn(15)", sheet.turn(15), 0);
        Check.due("turn(16)", sheet.turn(16), 3);
        Check.dueGreys("turn(16)", sheet, new int[][] {{1, 5, 3}, {4, 8, 6}, {7, 2, 9}});
    }

    private static void turnGoesRoundLowSheets() {
        int[][] low = {new int[48], new int[48]};
        for (int x = 0; x < 48; x++) {
            low[0][x] = x;
            low[1][x] = 100 + x;
        }
        for (int b : new int[] {100, -100}) {
            SheetRows sheet = Check.sheetOfGreys(low);
            int[][] due = {new int[48], new int[48]};
            int others = 0;
            for (int x = 0; x < 48; x++) {
                int down = (int) Math.floor(b * x / 32.0);
                int odd = down & 1;
                due[odd][x] = x;
                due[1 - odd][x] = 100 + x;
                others += 2 * odd;
            }
            Check.due("turn(" + b + ") of two rows", sheet.turn(b), others);
            Check.dueGreys("turn(" + b + ") of two rows", sheet, due);
        }
        SheetRows one = Check.sheetOfGreys(new int[][] {low[0]});
        Check.due("turn(100) of one row", one.turn(100), 0);
        Check.due("turn(-100) of one row", one.turn(-100), 0);
        Check.dueGreys("turns of one row", one, new int[][] {low[0]});
    }

    private static void turnCountsOthersAlone() {
        SheetRows sheet = Check.sheetOf(10, 10, "....", "....");
        Check.due("turn(32) of like greys", sheet.turn(32), 0);
        sheet.put(1, 0, (byte) 11);
        Check.due("turn(32)", sheet.turn(32), 2);
        Check.dueGreys("turn(32)", sheet, new int[][] {{10, 10, 10, 10}, {10, 11, 10, 10}});
    }

    private static void turnRefusesFarShears() {
        int[][] greys = {{1, 2, 3}, {4, 5, 6}};
        SheetRows sheet = Check.sheetOfGreys(greys);
        for (int b : new int[] {101, -101, 128, Integer.MAX_VALUE, Integer.MIN_VALUE, -2147483647}) {
            Check.due("turn(" + b + ")", sheet.turn(b), SheetRows.NONE);
        }
        Check.dueGreys("refused turns", sheet, greys);
        // 100 / 32 is 3 and 200 / 32 is 6; -100 / 32 is -4 and -200 / 32 is -7.
        Check.due("turn(100)", sheet.turn(100), 2);
        Check.dueGreys("turn(100)", sheet, new int[][] {{1, 5, 3}, {4, 2, 6}});
        Check.due("turn(-100)", sheet.turn(-100), 2);
        Check.dueGreys("turn(-100)", sheet, new int[][] {{1, 5, 6}, {4, 2, 3}});
    }

    /** A line that falls or rises is put level by the shear against it. */
    private static void skewFindsTheLean() {
        for (int b = -8; b <= 8; b++) {
            int[] line = new int[48];
            for (int x = 0; x < 48; x++) {
                line[x] = 20 + Math.floorDiv(b * x, 32);
            }
            // Rounding down makes -b not quite the shear against b, so the due lean is counted out here.
            dueLean("a line by " + b, line, plainLean(line));
        }
        for (int b : new int[] {-8, -5, 3, 8}) {
            int[] line = new int[48];
            for (int x = 0; x < 48; x++) {
                line[x] = 20 - Math.floorDiv(b * x, 32);
            }
            SheetRows sheet = dueLean("a line against " + b, line, b);
            for (int x = 0; x < 48; x++) {
                Check.due("level against " + b + " grey(" + x + ", 20)", sheet.grey(x, 20), 9);
            }
        }
    }

    /** The sheet of a line (its y for each x), after the turn by its lean. */
    private static SheetRows dueLean(String name, int[] line, int lean) {
        SheetRows sheet = new SheetRows(48, 48);
        for (int x = 0; x < 48; x++) {
            sheet.put(x, line[x], (byte) 9);
        }
        Check.due(name + " skew()", sheet.skew(), lean);
        sheet.turn(lean);
        for (int x = 0; x < 48; x++) {
            int y = shearedRow(x, line[x], lean);
            Check.due(name + " turned, grey(" + x + ", " + y + ")", sheet.grey(x, y), 9);
        }
        return sheet;
    }

    private static int shearedRow(int x, int y, int b) {
        return Math.floorMod(y + (int) Math.floor(b * x / 32.0), 48);
    }

    private static int plainLean(int[] line) {
        int best = 0;
        long bestSum = -1;
        for (int b = -8; b <= 8; b++) {
            long[] rows = new long[48];
            for (int x = 0; x < 48; x++) {
                rows[shearedRow(x, line[x], b)]++;
            }
            long sum = 0;
            for (long row : rows) {
                sum += row * row;
            }
            if (sum > bestSum || sum == bestSum && Math.abs(b) < Math.abs(best)) {
                best = b;
                bestSum = sum;
            }
        }
        return best;
    }

    private static void skewOfEqualOnes() {
        Check.due("bright skew()", new SheetRows(48, 48).skew(), 0);
        Check.due("one row skew()", Check.sheetOf(0, 255, "#.##....").skew(), 0);
        // Level, or in one column: no shear is better than 0.
        Check.due("level skew()", Check.sheetOf(0, 255, "........", "###.....", "........").skew(), 0);
        Check.due("one column skew()", Check.sheetOf(0, 255, "..#....", "..#....", "..#....").skew(), 0);
        // On two rows up by one is the same as down by one: at x = 4 each of -8 .. -1 goes up by one and 8 goes
        // down by one; the one nearest to 0 is -1.
        Check.due("two rows skew()", Check.sheetOf(0, 255, "#....", "....#").skew(), -1);
        SheetRows both = new SheetRows(33, 3);
        both.put(0, 1, (byte) 0);
        both.put(32, 2, (byte) 0);
        // -1 brings the grey at 32 up by 1.
        Check.due("up by one skew()", both.skew(), -1);
        both.put(32, 2, (byte) 255);
        both.put(32, 0, (byte) 0);
        Check.due("down by one skew()", both.skew(), 1);
        // Equal for -2 (up by 2) and 2 (down by 2): the one below 0 is told.
        SheetRows equal = new SheetRows(33, 4);
        equal.put(0, 0, (byte) 0);
        equal.put(32, 2, (byte) 0);
        Check.due("equal ones skew()", equal.skew(), -2);
    }

    private static void skewOfInvertedSheets() {
        SheetRows sheet = new SheetRows(48, 8);
        sheet.put(0, 1, (byte) 0);
        sheet.put(32, 5, (byte) 0);
        Check.due("skew()", sheet.skew(), -4);
        Check.due("side(2)", sheet.side(2), 384);
        Check.due("inverted()", sheet.inverted(), true);
        Check.due("inverted skew()", sheet.skew(), -4);
    }

    private static void skewChangesNothing() {
        int[][] greys = {{0, 255, 255, 255}, {255, 0, 255, 255}, {255, 255, 255, 0}};
        SheetRows sheet = Check.sheetOfGreys(greys);
        int lean = sheet.skew();
        Check.due("skew() again", sheet.skew(), lean);
        Check.dueGreys("skew()", sheet, greys);
    }
}
