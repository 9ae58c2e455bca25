/** The boundary cases of a new object, put and grey: Terms, promises 1, 2 and 14. */
public final class SheetEdgesTest {
    private static final int LEAST = Integer.MIN_VALUE;
    private static final int MOST = Integer.MAX_VALUE;

    public static void main(String[] args) {
        aWidthTooSmallIsOne();
        aWidthTooLargeIsFortyEight();
        aHeightTooSmallIsOne();
        aHeightTooLargeIsFortyEight();
        sidesAtTheirBoundsStay();
        nothingIsPackedAtFirst();
        nothingIsCollectedAtFirst();
        noPartsAreFoundAtFirst();
        allGreysAre255AtFirst();
        bytesAreNumbersNotBelowZero();
        greysAreInARow();
        putTakesTheCorners();
        putThrowsBesideTheSheet();
        greyTakesTheCorners();
        greyThrowsBesideTheSheet();
        placesThatWrapAroundThrow();
        theLastOf512CallsAnswers();
        Check.end("SheetEdgesTest");
    }

    private static void dueSides(int width, int height, int madeWidth, int madeHeight) {
        String name = "new SheetRows(" + width + ", " + height + ")";
        SheetRows sheet = new SheetRows(width, height);
        Check.due(name + " last grey", sheet.grey(madeWidth - 1, madeHeight - 1), 255);
        Check.dueSize(name, sheet, madeWidth, madeHeight);
        Check.due(name + " side(2)", sheet.side(2), madeWidth * madeHeight);
    }

    /** "W and H brought to 1 .. 48 (each by itself)" */
    private static void aWidthTooSmallIsOne() {
        dueSides(0, 5, 1, 5);
        dueSides(-1, 48, 1, 48);
        dueSides(-48, 7, 1, 7);
        dueSides(LEAST, 2, 1, 2);
    }

    /** "W and H brought to 1 .. 48 (each by itself)" */
    private static void aWidthTooLargeIsFortyEight() {
        dueSides(49, 5, 48, 5);
        dueSides(257, 1, 48, 1);
        dueSides(MOST, 2, 48, 2);
    }

    /** "W and H brought to 1 .. 48 (each by itself)" */
    private static void aHeightTooSmallIsOne() {
        dueSides(5, 0, 5, 1);
        dueSides(48, -1, 48, 1);
        dueSides(7, -48, 7, 1);
        dueSides(2, LEAST, 2, 1);
    }

    /** "W and H brought to 1 .. 48 (each by itself)" */
    private static void aHeightTooLargeIsFortyEight() {
        dueSides(5, 49, 5, 48);
        dueSides(1, 257, 1, 48);
        dueSides(2, MOST, 2, 48);
    }

    private static void sidesAtTheirBoundsStay() {
        dueSides(1, 1, 1, 1);
        dueSides(48, 48, 48, 48);
        dueSides(1, 48, 1, 48);
        dueSides(48, 1, 48, 1);
        dueSides(2, 47, 2, 47);
        dueSides(47, 2, 47, 2);
        dueSides(LEAST, MOST, 1, 48);
        dueSides(MOST, LEAST, 48, 1);
    }

    /** "nothing packed" */
    private static void nothingIsPackedAtFirst() {
        for (int i : new int[] {0, 1, 2, -1}) {
            SheetRows sheet = new SheetRows(4, 4);
            Check.dueOutside("new octet(" + i + ")", () -> sheet.octet(i));
        }
    }

    /** "nothing collected": read at once it lacks every grey, and two bytes for the whole sheet are read from 0. */
    private static void nothingIsCollectedAtFirst() {
        Check.due("new unpack()", new SheetRows(4, 4).unpack(), -1);
        SheetRows sheet = new SheetRows(4, 4);
        Check.addAll(sheet, 16, 3);
        Check.due("unpack() of the first two", sheet.unpack(), 1);
        Check.due("unpack() of the first two, grey(3, 3)", sheet.grey(3, 3), 3);
    }

    private static void noPartsAreFoundAtFirst() {
        SheetRows sheet = Check.sheetOf(0, 255, "###...");
        for (int what = 0; what < 7; what++) {
            Check.due("part(0, " + what + ") before parts()", sheet.part(0, what), SheetRows.NONE);
        }
    }

    /** "all 255 at first": asked of every place, and by packing of the largest sheet. */
    private static void allGreysAre255AtFirst() {
        SheetRows sheet = new SheetRows(20, 20);
        for (int i = 0; i < 400; i++) {
            Check.due("new grey " + i, sheet.grey(i % 20, i / 20), 255);
        }
        SheetRows largest = new SheetRows(48, 48);
        Check.due("new pack()", largest.pack(), 20);
        for (int i = 1; i < 20; i += 2) {
            Check.due("new octet(" + i + ")", largest.octet(i), -1);
        }
    }

    /** "GREYS 0 .. 255 (a byte as a number not below 0)" */
    private static void bytesAreNumbersNotBelowZero() {
        byte[] bytes = {0, 1, 127, -128, -127, -2, -1};
        int[] greys = {0, 1, 127, 128, 129, 254, 255};
        SheetRows sheet = new SheetRows(1, 1);
        for (int i = 0; i < bytes.length; i++) {
            sheet.put(0, 0, bytes[i]);
            Check.due("grey of the byte " + bytes[i], sheet.grey(0, 0), greys[i]);
        }
    }

    /** "they are in a row, y times W and x": on a sheet that is not square. */
    private static void greysAreInARow() {
        SheetRows sheet = new SheetRows(3, 2);
        sheet.put(2, 0, (byte) 1);
        sheet.put(0, 1, (byte) 2);
        Check.dueOctets("row", sheet, 2, 255, 1, 1, 1, 2, 2, 255);
    }

    private static void putTakesTheCorners() {
        SheetRows sheet = new SheetRows(48, 48);
        int[][] corners = {{0, 0}, {47, 0}, {0, 47}, {47, 47}};
        for (int i = 0; i < corners.length; i++) {
            sheet.put(corners[i][0], corners[i][1], (byte) i);
        }
        Check.dueOctets("corners", sheet, 1, 0, 46, 255, 1, 1, 255, 255, 255, 255, 255, 255, 255, 255, 255, 255,
            255, 255, 255, 255, 255, 255, 168, 255, 1, 2, 46, 255, 1, 3);
    }

    private static void duePutOutside(int width, int height, int x, int y) {
        SheetRows sheet = new SheetRows(width, height);
        Check.dueOutside("put(" + x + ", " + y + ") on " + width + " x " + height, () -> {
            sheet.put(x, y, (byte) 0);
            return 0;
        });
        Check.due("after it side(2)", sheet.side(2), width * height);
        Check.due("after it grey(0, 0)", sheet.grey(0, 0), 0);
        Check.due("after it pack()", sheet.pack(), 2);
    }

    private static void dueGreyOutside(int width, int height, int x, int y) {
        SheetRows sheet = new SheetRows(width, height);
        Check.dueOutside("grey(" + x + ", " + y + ") on " + width + " x " + height, () -> sheet.grey(x, y));
    }

    /** "ArrayIndexOutOfBoundsException when the place is not on the sheet": in the row some of these would be. */
    private static void putThrowsBesideTheSheet() {
        duePutOutside(5, 3, 5, 0);
        duePutOutside(5, 3, 5, 1);
        duePutOutside(5, 3, 5, 2);
        duePutOutside(5, 3, -1, 0);
        duePutOutside(5, 3, -1, 1);
        duePutOutside(5, 3, -1, 2);
        duePutOutside(5, 3, 0, -1);
        duePutOutside(5, 3, 4, -1);
        duePutOutside(5, 3, 0, 3);
        duePutOutside(5, 3, 4, 3);
        duePutOutside(5, 3, 10, 0);
        duePutOutside(1, 1, 1, 0);
        duePutOutside(1, 1, 0, 1);
        duePutOutside(3, 5, 3, 3);
        duePutOutside(3, 5, 4, 0);
        duePutOutside(1, 13, 48, 0);
    }

    private static void greyTakesTheCorners() {
        SheetRows sheet = Check.sheetOfOctets(48, 48, 1, 10, 46, 0, 1, 11, 255, 0, 255, 0, 255, 0, 255, 0, 255, 0,
            255, 0, 255, 0, 255, 0, 168, 0, 1, 12, 46, 0, 1, 13);
        Check.due("grey(0, 0)", sheet.grey(0, 0), 10);
        Check.due("grey(47, 0)", sheet.grey(47, 0), 11);
        Check.due("grey(0, 47)", sheet.grey(0, 47), 12);
        Check.due("grey(47, 47)", sheet.grey(47, 47), 13);
    }

    /** "ArrayIndexOutOfBoundsException when it is not on the sheet" */
    private static void greyThrowsBesideTheSheet() {
        for (int y = -1; y <= 3; y++) {
            dueGreyOutside(5, 3, -1, y);
            dueGreyOutside(5, 3, 5, y);
        }
        for (int x = 0; x < 5; x++) {
            dueGreyOutside(5, 3, x, -1);
            dueGreyOutside(5, 3, x, 3);
        }
        dueGreyOutside(1, 1, 1, 0);
        dueGreyOutside(1, 1, 0, 1);
        dueGreyOutside(48, 48, 48, 47);
        dueGreyOutside(48, 48, 47, 48);
        dueGreyOutside(3, 5, 4, 0);
    }

    /** y times W and x come round to 0 for these, when an int holds no more. */
    private static void placesThatWrapAroundThrow() {
        int[][] places = {{0, 1 << 30}, {0, LEAST}, {LEAST, 0}, {MOST, 0}, {0, MOST}, {MOST, MOST}, {LEAST, LEAST},
            {-4, 1}, {4, -1}, {LEAST, 1 << 29}};
        for (int[] place : places) {
            duePutOutside(4, 4, place[0], place[1]);
            dueGreyOutside(4, 4, place[0], place[1]);
        }
    }

    /** "An object is used for at most 512 calls": 510 times add, the 511th and the 512th tell what came of it. */
    private static void theLastOf512CallsAnswers() {
        SheetRows sheet = new SheetRows(15, 17);
        for (int i = 0; i < 255; i++) {
            sheet.add((byte) 1);
            sheet.add((byte) i);
        }
        Check.due("511th call unpack()", sheet.unpack(), 1);
        Check.due("512th call grey(14, 16)", sheet.grey(14, 16), 254);
    }
}
