/** Promise 12: side. */
public final class SideTest {
    public static void main(String[] args) {
        rowsFromTheirEnds();
        rowsFromTheLast();
        whatGreysLack();
        halved();
        halvedWithOddSides();
        halvedToNothing();
        noSuchSide();
        Check.end("SideTest");
    }

    private static void due(int other, int[][] before, int others, int[][] after) {
        SheetRows sheet = Check.sheetOfGreys(before);
        Check.due("side(" + other + ")", sheet.side(other), others);
        Check.dueGreys("side(" + other + ")", sheet, after);
    }

    private static void rowsFromTheirEnds() {
        due(0, new int[][] {{1, 2, 3}, {4, 5, 6}}, 4, new int[][] {{3, 2, 1}, {6, 5, 4}});
        due(0, new int[][] {{1, 2, 3, 4}, {7, 8, 8, 7}}, 4, new int[][] {{4, 3, 2, 1}, {7, 8, 8, 7}});
        due(0, new int[][] {{1}, {2}}, 0, new int[][] {{1}, {2}});
    }

    private static void rowsFromTheLast() {
        due(1, new int[][] {{1, 2}, {3, 4}, {5, 6}}, 4, new int[][] {{5, 6}, {3, 4}, {1, 2}});
        due(1, new int[][] {{1, 2, 9}, {3, 2, 4}}, 4, new int[][] {{3, 2, 4}, {1, 2, 9}});
        due(1, new int[][] {{1, 2, 3}}, 0, new int[][] {{1, 2, 3}});
    }

    private static void whatGreysLack() {
        due(2, new int[][] {{0, 1, 127}, {128, 254, 255}}, 6, new int[][] {{255, 254, 128}, {127, 1, 0}});
    }

    private static void halved() {
        due(3, new int[][] {{1, 2, 255, 255}, {3, 5, 255, 254}, {0, 0, 200, 100}, {0, 3, 150, 251}}, 13,
            new int[][] {{2, 254, 255, 255}, {0, 175, 255, 255}, {255, 255, 255, 255}, {255, 255, 255, 255}});
        due(3, new int[][] {{255, 255}, {255, 255}}, 0, new int[][] {{255, 255}, {255, 255}});
    }

    private static void halvedWithOddSides() {
        due(3, new int[][] {{10, 20, 1, 2, 3}, {30, 40, 5, 6, 7}, {8, 9, 10, 11, 12}}, 15,
            new int[][] {{25, 3, 255, 255, 255}, {255, 255, 255, 255, 255}, {255, 255, 255, 255, 255}});
    }

    private static void halvedToNothing() {
        due(3, new int[][] {{1, 2, 255}}, 2, new int[][] {{255, 255, 255}});
        due(3, new int[][] {{1}, {255}, {3}}, 2, new int[][] {{255}, {255}, {255}});
    }

    private static void noSuchSide() {
        int[][] greys = {{1, 2, 3}, {4, 5, 6}};
        for (int other : new int[] {-1, 4, 5, 256, 65536, Integer.MIN_VALUE, Integer.MAX_VALUE}) {
            due(other, greys, SheetRows.NONE, greys);
        }
    }
}
