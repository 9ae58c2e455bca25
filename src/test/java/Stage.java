/**
 * A sheet in the midst of its use: parts found, bytes packed, a grey changed since, and half of a sheet collected.
 * What a refused call may not touch is looked at through every call that tells it.
 */
final class Stage {
    private static final int[][] GREYS = {
        {10, 10, 10, 250, 250, 250},
        {250, 250, 250, 250, 250, 250},
        {250, 250, 250, 10, 10, 10},
        {77, 250, 250, 250, 250, 250}};
    private static final int[] OCTETS = {3, 10, 12, 250, 3, 10, 6, 250};

    final SheetRows sheet;

    Stage() {
        sheet = Check.sheetOf(10, 250, "###...", "......", "...###", "......");
        sheet.parts();
        sheet.pack();
        sheet.put(0, 3, (byte) 77);
        Check.addAll(sheet, 20, 99, 4);
    }

    /** Asks all of the state; what was collected can be asked only once, so a stage is used for one call. */
    void dueUntouched(String call) {
        dueSheet(call);
        sheet.add((byte) 98);
        Check.due("after " + call + " unpack() of what was collected", sheet.unpack(), 1);
        Check.due("after " + call + " and unpack() grey(1, 3)", sheet.grey(1, 3), 99);
        Check.due("after " + call + " and unpack() grey(2, 3)", sheet.grey(2, 3), 98);
    }

    /** All but what was collected. */
    void dueSheet(String call) {
        Check.duePart("after " + call, sheet, 0, 0, 0, 2, 0, 3, 3, 0);
        Check.duePart("after " + call, sheet, 1, 3, 2, 5, 2, 3, 12, 6);
        Check.duePart("after " + call, sheet, 2, SheetRows.NONE);
        for (int i = 0; i < OCTETS.length; i++) {
            Check.due("after " + call + " octet(" + i + ")", sheet.octet(i), (byte) OCTETS[i]);
        }
        Check.dueOutside("after " + call + " octet(8)", () -> sheet.octet(OCTETS.length));
        Check.dueGreys(call, sheet, GREYS);
    }
}
