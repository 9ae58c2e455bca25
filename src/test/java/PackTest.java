/** Promises 8 and 9: pack, octet. */
public final class PackTest {
    public static void main(String[] args) {
        stretchesGoOnOverRows();
        longStretchesArePartedAt255();
        noTwoAlike();
        octetTellsTheLatestPacked();
        noSuchOctet();
        Check.end("PackTest");
    }

    private static void stretchesGoOnOverRows() {
        SheetRows sheet = Check.sheetOfGreys(new int[][] {{1, 1, 7}, {7, 7, 255}, {255, 0, 7}});
        Check.dueOctets("rows", sheet, 2, 1, 3, 7, 2, 255, 1, 0, 1, 7);
        Check.dueOctets("one grey", new SheetRows(1, 1), 1, 255);
    }

    private static void longStretchesArePartedAt255() {
        Check.dueOctets("15 x 17", new SheetRows(15, 17), 255, 255);
        Check.dueOctets("16 x 16", new SheetRows(16, 16), 255, 255, 1, 255);
        Check.dueOctets("48 x 48", new SheetRows(48, 48), 255, 255, 255, 255, 255, 255, 255, 255, 255, 255,
            255, 255, 255, 255, 255, 255, 255, 255, 9, 255);
        SheetRows sheet = new SheetRows(16, 16);
        sheet.put(15, 15, (byte) 0);
        Check.dueOctets("255 and another", sheet, 255, 255, 1, 0);
        sheet.put(14, 15, (byte) 0);
        Check.dueOctets("254 and two others", sheet, 254, 255, 2, 0);
        SheetRows later = new SheetRows(20, 20);
        later.put(0, 0, (byte) 4);
        Check.dueOctets("a stretch from 1", later, 1, 4, 255, 255, 144, 255);
    }

    private static void noTwoAlike() {
        SheetRows sheet = new SheetRows(48, 48);
        for (int y = 0; y < 48; y++) {
            Check.addAll(sheet, 48, y % 3);
        }
        Check.due("rows of 0, 1 and 2 unpack()", sheet.unpack(), 1);
        // Each column one further up than the one before it: the grey at x, y is (x + y) % 3.
        Check.due("turn(-32)", sheet.turn(-32), 1536);
        Check.due("no two alike pack()", sheet.pack(), 4608);
        for (int i = 4508; i < 4608; i += 2) {
            Check.due("octet(" + i + ")", sheet.octet(i), 1);
            Check.due("octet(" + (i + 1) + ")", sheet.octet(i + 1), (i / 2 % 48 + i / 96) % 3);
        }
        Check.dueOutside("octet(4608)", () -> sheet.octet(4608));
    }

    private static void octetTellsTheLatestPacked() {
        SheetRows sheet = Check.sheetOfGreys(new int[][] {{1, 2, 3}});
        Check.due("pack()", sheet.pack(), 6);
        sheet.side(2);
        sheet.put(0, 0, (byte) 9);
        Check.addAll(sheet, 3, 50);
        Check.due("unpack()", sheet.unpack(), 1);
        int[] due = {1, 1, 1, 2, 1, 3};
        for (int i = 0; i < due.length; i++) {
            Check.due("octet(" + i + ") after changes", sheet.octet(i), due[i]);
        }
        Check.dueOctets("packed again", sheet, 3, 50);
    }

    private static void noSuchOctet() {
        SheetRows sheet = new SheetRows(2, 2);
        Check.dueOutside("octet(0) before pack", () -> sheet.octet(0));
        Check.due("pack()", sheet.pack(), 2);
        for (int i : new int[] {-1, 2, 3, 8, 100000, Integer.MIN_VALUE, Integer.MAX_VALUE}) {
            Check.dueOutside("octet(" + i + ")", () -> sheet.octet(i));
        }
        Check.due("octet(0)", sheet.octet(0), 4);
        Check.due("octet(1)", sheet.octet(1), -1);
    }
}
