import java.util.Arrays;

/** Promises 10 and 11: add, unpack. */
public final class UnpackTest {
    private static final int[][] GREYS = {{1, 2, 3}, {4, 5, 6}};

    public static void main(String[] args) {
        goodBytesBecomeTheSheet();
        stretchesNeedNotBeLong();
        wrongBytesAreTold();
        nothingIsCollectedAfterwards();
        longStretches();
        whatWasPackedIsReadBack();
        Check.end("UnpackTest");
    }

    private static SheetRows given(int... octets) {
        SheetRows sheet = Check.sheetOfGreys(GREYS);
        Check.addAll(sheet, octets);
        return sheet;
    }

    private static void goodBytesBecomeTheSheet() {
        SheetRows sheet = given(2, 200, 3, 0, 1, 255);
        Check.dueGreys("add", sheet, GREYS);
        Check.due("unpack()", sheet.unpack(), 1);
        Check.dueGreys("unpack()", sheet, new int[][] {{200, 200, 0}, {0, 0, 255}});
        SheetRows like = given(6, 128);
        Check.due("unpack() of one stretch", like.unpack(), 1);
        Check.dueGreys("unpack() of one stretch", like, new int[][] {{128, 128, 128}, {128, 128, 128}});
    }

    private static void stretchesNeedNotBeLong() {
        SheetRows sheet = given(1, 9, 1, 9, 2, 9, 2, 8);
        Check.due("unpack() of short stretches", sheet.unpack(), 1);
        Check.dueGreys("unpack() of short stretches", sheet, new int[][] {{9, 9, 9}, {9, 8, 8}});
    }

    private static void dueWrong(int place, int... octets) {
        String name = Arrays.toString(octets);
        SheetRows sheet = given(octets);
        Check.due(name + " unpack()", sheet.unpack(), -1 - place);
        Check.dueGreys(name + " unpack()", sheet, GREYS);
        Check.due(name + " unpack() again", sheet.unpack(), -1);
    }

    private static void wrongBytesAreTold() {
        // Nothing, or too few greys: the length.
        dueWrong(0);
        dueWrong(2, 5, 7);
        dueWrong(4, 2, 7, 3, 7);
        // Half a pair: the length.
        dueWrong(1, 6);
        dueWrong(1, 1);
        dueWrong(3, 2, 7, 4);
        // A number that is 0, or goes beyond the sheet, in a half pair too.
        dueWrong(0, 0, 7);
        dueWrong(0, 0);
        dueWrong(2, 2, 7, 0, 7, 4, 7);
        dueWrong(2, 2, 7, 0);
        dueWrong(0, 7, 7);
        dueWrong(0, 255, 7);
        dueWrong(0, 128, 7);
        dueWrong(0, 7);
        dueWrong(2, 2, 7, 5, 7);
        dueWrong(2, 2, 7, 5);
        dueWrong(4, 2, 7, 2, 7, 3, 7, 1, 1);
        // More than the sheet has: the first byte behind.
        dueWrong(2, 6, 7, 1);
        dueWrong(2, 6, 7, 0);
        dueWrong(2, 6, 7, 1, 7);
        dueWrong(2, 6, 7, 0, 0);
        dueWrong(4, 2, 7, 4, 9, 255, 7, 3);
    }

    private static void nothingIsCollectedAfterwards() {
        SheetRows sheet = given(6, 50);
        Check.due("unpack()", sheet.unpack(), 1);
        Check.due("unpack() of nothing", sheet.unpack(), -1);
        Check.addAll(sheet, 6, 60, 1);
        Check.due("unpack() of too many", sheet.unpack(), -3);
        Check.dueGreys("unpack() of too many", sheet, new int[][] {{50, 50, 50}, {50, 50, 50}});
        Check.addAll(sheet, 6, 70);
        Check.due("unpack() after a wrong one", sheet.unpack(), 1);
        Check.dueGreys("unpack() after a wrong one", sheet, new int[][] {{70, 70, 70}, {70, 70, 70}});
    }

    private static void longStretches() {
        SheetRows sheet = new SheetRows(20, 20);
        Check.addAll(sheet, 255, 1, 145, 2);
        Check.due("unpack() of 400", sheet.unpack(), 1);
        Check.due("grey 254", sheet.grey(14, 12), 1);
        Check.due("grey 255", sheet.grey(15, 12), 2);
        Check.due("grey 399", sheet.grey(19, 19), 2);
        Check.addAll(sheet, 255, 3, 146, 4);
        Check.due("unpack() of 401", sheet.unpack(), -3);
        Check.addAll(sheet, 255, 3, 144, 4);
        Check.due("unpack() of 399", sheet.unpack(), -5);
        Check.due("grey 0 stays", sheet.grey(0, 0), 1);
    }

    private static void whatWasPackedIsReadBack() {
        SheetRows small = new SheetRows(10, 10);
        for (int i = 0; i < 100; i++) {
            small.put(i % 10, i / 10, (byte) (i * i / 37));
        }
        SheetRows read = readBack(small, 10, 10);
        for (int i = 0; i < 100; i++) {
            Check.due("read back " + i, read.grey(i % 10, i / 10), small.grey(i % 10, i / 10));
        }
        SheetRows large = new SheetRows(48, 48);
        for (int i = 0; i < 48; i++) {
            large.put(i * 7 % 48, i, (byte) i);
        }
        SheetRows readLarge = readBack(large, 48, 48);
        for (int i = 0; i < 48; i++) {
            Check.due("read back, large " + i, readLarge.grey(i * 7 % 48, i), i);
        }
        Check.due("read back, large pack()", readLarge.pack(), large.pack());
    }

    private static SheetRows readBack(SheetRows from, int width, int height) {
        SheetRows to = new SheetRows(width, height);
        int length = from.pack();
        for (int i = 0; i < length; i++) {
            to.add(from.octet(i));
        }
        Check.due("unpack() of packed", to.unpack(), 1);
        return to;
    }
}
