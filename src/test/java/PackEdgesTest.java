/** The boundary cases of PACKED: Terms, promises 8 and 9. */
public final class PackEdgesTest {
    public static void main(String[] args) {
        stretchesUpTo255AreOnePair();
        longerStretchesArePartedAt255();
        aStretchOf255BesideAnother();
        stretchesGoOnFromRowToRow();
        theSmallestSheet();
        wholeSheetsOfLikeGreys();
        noTwoGreysAlike();
        numbersAndGreysAreBytes();
        noOctetBeforeAnythingIsPacked();
        noOctetBelowZero();
        noOctetBehindTheLast();
        fewerBytesPackedLatest();
        moreBytesPackedLatest();
        packedBytesStayWhenTheSheetChanges();
        packingChangesNothingElse();
        Check.end("PackEdgesTest");
    }

    /** 48 x 48 greys, a stretch of 7 as long as is said and then 9: the first bytes they are packed as. */
    private static void dueStretch(int length, int... firstOctets) {
        SheetRows sheet = new SheetRows(48, 48);
        addShortStretches(sheet, length, 7);
        addShortStretches(sheet, 48 * 48 - length, 9);
        String name = "a stretch of " + length;
        Check.due(name + " unpack()", sheet.unpack(), 1);
        int pairs = (length + 254) / 255 + (48 * 48 - length + 254) / 255;
        Check.due(name + " pack()", sheet.pack(), 2 * pairs);
        for (int i = 0; i < firstOctets.length; i++) {
            Check.due(name + " octet(" + i + ")", sheet.octet(i), (byte) firstOctets[i]);
        }
    }

    /** Shorter than what is packed, so that packing cannot just hand back what was read. */
    private static void addShortStretches(SheetRows sheet, int length, int grey) {
        for (int left = length; left > 0; left -= 100) {
            Check.addAll(sheet, Math.min(100, left), grey);
        }
    }

    /** "how many (1 .. 255)" */
    private static void stretchesUpTo255AreOnePair() {
        dueStretch(1, 1, 7, 255, 9);
        dueStretch(2, 2, 7, 255, 9);
        dueStretch(127, 127, 7, 255, 9);
        dueStretch(128, 128, 7, 255, 9);
        dueStretch(254, 254, 7, 255, 9);
        dueStretch(255, 255, 7, 255, 9);
    }

    /** "each as long as can be up to 255" */
    private static void longerStretchesArePartedAt255() {
        dueStretch(256, 255, 7, 1, 7, 255, 9);
        dueStretch(257, 255, 7, 2, 7, 255, 9);
        dueStretch(509, 255, 7, 254, 7, 255, 9);
        dueStretch(510, 255, 7, 255, 7, 255, 9);
        dueStretch(511, 255, 7, 255, 7, 1, 7, 255, 9);
        dueStretch(2303, 255, 7);
    }

    /** The grey that ends a stretch of 255, and the stretch behind it, are counted anew. */
    private static void aStretchOf255BesideAnother() {
        SheetRows sheet = Check.sheetOfOctets(20, 20, 100, 7, 100, 7, 55, 7, 1, 8, 100, 7, 44, 7);
        Check.dueOctets("255, 1, 144", sheet, 255, 7, 1, 8, 144, 7);
        SheetRows later = Check.sheetOfOctets(20, 20, 1, 8, 200, 7, 55, 7, 144, 7);
        Check.dueOctets("1, 399", later, 1, 8, 255, 7, 144, 7);
    }

    /** "for stretches of like greys of the row": the row of all greys, not each line by itself. */
    private static void stretchesGoOnFromRowToRow() {
        SheetRows sheet = Check.sheetOfGreys(new int[][] {{1, 2}, {2, 2}, {2, 3}});
        Check.dueOctets("from row to row", sheet, 1, 1, 4, 2, 1, 3);
        SheetRows column = Check.sheetOfGreys(new int[][] {{5}, {5}, {5}});
        Check.dueOctets("a column", column, 3, 5);
    }

    private static void theSmallestSheet() {
        Check.dueOctets("1 x 1", new SheetRows(1, 1), 1, 255);
        Check.dueOctets("1 x 1 of 0", Check.sheetOf(0, 0, "#"), 1, 0);
    }

    private static void wholeSheetsOfLikeGreys() {
        Check.dueOctets("15 x 17", new SheetRows(15, 17), 255, 255);
        Check.dueOctets("16 x 16", new SheetRows(16, 16), 255, 255, 1, 255);
        Check.dueOctets("30 x 17", new SheetRows(30, 17), 255, 255, 255, 255);
        Check.dueOctets("48 x 48", new SheetRows(48, 48), 255, 255, 255, 255, 255, 255, 255, 255, 255, 255,
            255, 255, 255, 255, 255, 255, 255, 255, 9, 255);
    }

    private static void noTwoGreysAlike() {
        SheetRows sheet = new SheetRows(15, 10);
        int[] due = new int[300];
        for (int i = 0; i < 150; i++) {
            sheet.put(i % 15, i / 15, (byte) (i % 2));
            due[2 * i] = 1;
            due[2 * i + 1] = i % 2;
        }
        Check.dueOctets("no two alike", sheet, due);
    }

    private static void numbersAndGreysAreBytes() {
        SheetRows sheet = Check.sheetOfOctets(20, 20, 128, 128, 127, 127, 145, 0);
        Check.due("pack()", sheet.pack(), 6);
        byte[] due = {-128, -128, 127, 127, -111, 0};
        for (int i = 0; i < due.length; i++) {
            Check.due("octet(" + i + ")", sheet.octet(i), due[i]);
        }
    }

    private static void dueNone(String when, SheetRows sheet, int... places) {
        for (int i : places) {
            Check.dueOutside(when + " octet(" + i + ")", () -> sheet.octet(i));
        }
    }

    /** "nothing packed": whatever else was done before. */
    private static void noOctetBeforeAnythingIsPacked() {
        SheetRows sheet = new SheetRows(2, 2);
        dueNone("new", sheet, 0, 1, -1);
        Check.addAll(sheet, 3, 1, 1, 2);
        dueNone("after add", sheet, 0, 1, 3);
        Check.due("unpack()", sheet.unpack(), 1);
        dueNone("after unpack", sheet, 0, 1, 3);
        sheet.put(0, 0, (byte) 1);
        sheet.side(2);
        sheet.parts();
        dueNone("after others", sheet, 0, 1, 3);
        Check.dueOctets("at last", sheet, 3, 254, 1, 253);
    }

    /** "ArrayIndexOutOfBoundsException when there is none such" */
    private static void noOctetBelowZero() {
        SheetRows sheet = new SheetRows(3, 3);
        sheet.pack();
        dueNone("packed", sheet, -1, -2, Integer.MIN_VALUE, Integer.MIN_VALUE + 1);
    }

    /** "ArrayIndexOutOfBoundsException when there is none such" */
    private static void noOctetBehindTheLast() {
        SheetRows sheet = new SheetRows(3, 3);
        Check.due("pack()", sheet.pack(), 2);
        Check.due("octet(1)", sheet.octet(1), -1);
        dueNone("packed", sheet, 2, 3, 9, 17, 18, 4607, 4608, 5000, Integer.MAX_VALUE);
        SheetRows full = Check.sheetOfGreys(new int[][] {{1, 2}, {3, 4}});
        Check.due("full pack()", full.pack(), 8);
        Check.due("full octet(7)", full.octet(7), 4);
        dueNone("full", full, 8);
    }

    /** "what was packed latest": the bytes behind it are no more. */
    private static void fewerBytesPackedLatest() {
        SheetRows sheet = Check.sheetOfGreys(new int[][] {{1, 2, 3}});
        Check.due("first pack()", sheet.pack(), 6);
        sheet.put(1, 0, (byte) 3);
        Check.due("octet(5) of the first", sheet.octet(5), 3);
        Check.due("second pack()", sheet.pack(), 4);
        int[] due = {1, 1, 2, 3};
        for (int i = 0; i < due.length; i++) {
            Check.due("octet(" + i + ") of the second", sheet.octet(i), due[i]);
        }
        dueNone("of the second", sheet, 4, 5);
    }

    private static void moreBytesPackedLatest() {
        SheetRows sheet = new SheetRows(3, 1);
        Check.dueOctets("first", sheet, 3, 255);
        sheet.put(1, 0, (byte) 0);
        dueNone("of the first", sheet, 2, 3);
        Check.dueOctets("second", sheet, 1, 255, 1, 0, 1, 255);
    }

    private static void packedBytesStayWhenTheSheetChanges() {
        SheetRows sheet = Check.sheetOfGreys(new int[][] {{1, 2, 2}, {2, 3, 3}});
        Check.due("pack()", sheet.pack(), 6);
        dueFirstPacked("at once", sheet);
        sheet.put(0, 0, (byte) 9);
        dueFirstPacked("put", sheet);
        sheet.turn(32);
        dueFirstPacked("turn", sheet);
        for (int other = 0; other < 4; other++) {
            sheet.side(other);
            dueFirstPacked("side(" + other + ")", sheet);
        }
        Check.addAll(sheet, 1, 4, 5, 5);
        dueFirstPacked("add", sheet);
        sheet.unpack();
        dueFirstPacked("unpack", sheet);
        sheet.parts();
        sheet.skew();
        sheet.threshold();
        dueFirstPacked("parts, skew and threshold", sheet);
    }

    private static void dueFirstPacked(String after, SheetRows sheet) {
        int[] due = {1, 1, 3, 2, 2, 3};
        for (int i = 0; i < due.length; i++) {
            Check.due("after " + after + " octet(" + i + ")", sheet.octet(i), due[i]);
        }
        dueNone("after " + after, sheet, 6);
    }

    private static void packingChangesNothingElse() {
        int[][] greys = {{1, 2, 2}, {2, 3, 3}};
        SheetRows sheet = Check.sheetOfGreys(greys);
        sheet.add((byte) 6);
        Check.due("pack()", sheet.pack(), 6);
        Check.due("pack() again", sheet.pack(), 6);
        Check.dueGreys("pack()", sheet, greys);
        sheet.add((byte) 8);
        Check.due("unpack()", sheet.unpack(), 1);
        Check.due("grey(2, 1)", sheet.grey(2, 1), 8);
    }
}
