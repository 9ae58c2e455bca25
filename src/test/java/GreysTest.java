/** Promises 1, 2 and 14: a new object, put, grey. */
public final class GreysTest {
    public static void main(String[] args) {
        sizesAreBroughtIntoTheirBounds();
        aNewSheetIsBrightAndEmpty();
        putAndGreyTellEveryByte();
        putChangesOnePlaceAlone();
        placesOutsideThrowAndChangeNothing();
        Check.end("GreysTest");
    }

    private static void sizesAreBroughtIntoTheirBounds() {
        int[] given = {Integer.MIN_VALUE, -1, 0, 1, 2, 47, 48, 49, 1000000, Integer.MAX_VALUE};
        int[] made = {1, 1, 1, 1, 2, 47, 48, 48, 48, 48};
        for (int i = 0; i < given.length; i++) {
            for (int j = 0; j < given.length; j++) {
                String name = "new SheetRows(" + given[i] + ", " + given[j] + ")";
                Check.dueSize(name, new SheetRows(given[i], given[j]), made[i], made[j]);
            }
        }
    }

    private static void aNewSheetIsBrightAndEmpty() {
        SheetRows sheet = new SheetRows(3, 2);
        Check.dueGreys("new", sheet, new int[][] {{255, 255, 255}, {255, 255, 255}});
        Check.dueOutside("new octet(0)", () -> sheet.octet(0));
        Check.due("new part(0, 0)", sheet.part(0, 0), SheetRows.NONE);
        Check.due("new unpack()", sheet.unpack(), -1);
    }

    private static void putAndGreyTellEveryByte() {
        SheetRows sheet = new SheetRows(16, 16);
        for (int v = 0; v < 256; v++) {
            sheet.put(v % 16, v / 16, (byte) v);
        }
        for (int v = 0; v < 256; v++) {
            Check.due("grey of " + v, sheet.grey(v % 16, v / 16), v);
        }
    }

    private static void putChangesOnePlaceAlone() {
        SheetRows sheet = new SheetRows(3, 2);
        sheet.put(2, 0, (byte) 7);
        sheet.put(0, 1, (byte) -128);
        Check.dueGreys("two puts", sheet, new int[][] {{255, 255, 7}, {128, 255, 255}});
        sheet.put(2, 0, (byte) 8);
        Check.dueGreys("a third put", sheet, new int[][] {{255, 255, 8}, {128, 255, 255}});
    }

    private static void placesOutsideThrowAndChangeNothing() {
        int[][] greys = {{1, 2, 3}, {4, 5, 6}};
        SheetRows sheet = Check.sheetOfGreys(greys);
        int[][] outside = {{-1, 0}, {0, -1}, {3, 0}, {0, 2}, {-1, 1}, {3, -1}, {3, 2}, {-3, 1},
            {Integer.MIN_VALUE, 0}, {Integer.MAX_VALUE, 0}, {0, Integer.MIN_VALUE}, {0, Integer.MAX_VALUE},
            {Integer.MAX_VALUE, Integer.MAX_VALUE}, {0, 1431655766}};
        for (int[] place : outside) {
            String at = "(" + place[0] + ", " + place[1] + ")";
            Check.dueOutside("put" + at, () -> {
                sheet.put(place[0], place[1], (byte) 99);
                return 0;
            });
            Check.dueOutside("grey" + at, () -> sheet.grey(place[0], place[1]));
        }
        Check.dueGreys("puts outside", sheet, greys);
    }
}
