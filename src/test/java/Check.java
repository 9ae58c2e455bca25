import java.util.Arrays;
import java.util.function.IntSupplier;

/** What the tests share: counting wrong answers, and making sheets from pictures in letters. */
final class Check {
    private static final int THROWN = Integer.MIN_VALUE;
    private static int wrong = 0;

    private Check() {
    }

    static void due(String call, long got, long want) {
        if (got != want) {
            wrong++;
            System.out.println(call + " answered " + got + ", due is " + want);
        }
    }

    static void due(String call, boolean got, boolean want) {
        due(call, got ? 1 : 0, want ? 1 : 0);
    }

    /** The exact class is looked at: a class above or below it is not what the document names. */
    static void dueOutside(String call, IntSupplier doing) {
        due(call + " throws ArrayIndexOutOfBoundsException", answerOf(doing), THROWN);
    }

    /**
     * The answer, or a number that no call answers when it throws ArrayIndexOutOfBoundsException by a throw
     * statement; the machine's own exception is known by its text and is not taken.
     */
    static int answerOf(IntSupplier doing) {
        try {
            return doing.getAsInt();
        } catch (RuntimeException e) {
            boolean byMachine = e.getMessage() != null && e.getMessage().startsWith("Index ");
            if (byMachine || e.getClass() != ArrayIndexOutOfBoundsException.class) {
                throw e;
            }
            return THROWN;
        }
    }

    /** A sheet with a grey for each '#' and the other for each '.'. */
    static SheetRows sheetOf(int hash, int dot, String... rows) {
        SheetRows sheet = new SheetRows(rows[0].length(), rows.length);
        for (int y = 0; y < rows.length; y++) {
            for (int x = 0; x < rows[y].length(); x++) {
                sheet.put(x, y, (byte) (rows[y].charAt(x) == '#' ? hash : dot));
            }
        }
        return sheet;
    }

    static SheetRows sheetOfGreys(int[][] rows) {
        SheetRows sheet = new SheetRows(rows[0].length, rows.length);
        for (int y = 0; y < rows.length; y++) {
            for (int x = 0; x < rows[y].length; x++) {
                sheet.put(x, y, (byte) rows[y][x]);
            }
        }
        return sheet;
    }

    static void dueGreys(String after, SheetRows sheet, int[][] rows) {
        for (int y = 0; y < rows.length; y++) {
            for (int x = 0; x < rows[y].length; x++) {
                due("after " + after + " grey(" + x + ", " + y + ")", sheet.grey(x, y), rows[y][x]);
            }
        }
        dueSize("after " + after, sheet, rows[0].length, rows.length);
    }

    static void dueSize(String name, SheetRows sheet, int width, int height) {
        sheet.grey(width - 1, height - 1);
        dueOutside(name + " grey right of the sheet", () -> sheet.grey(width, 0));
        dueOutside(name + " grey below the sheet", () -> sheet.grey(0, height));
    }

    static void dueOctets(String name, SheetRows sheet, int... octets) {
        due(name + " pack()", sheet.pack(), octets.length);
        for (int i = 0; i < octets.length; i++) {
            due(name + " octet(" + i + ")", sheet.octet(i), (byte) octets[i]);
        }
        dueOutside(name + " octet behind the last", () -> sheet.octet(octets.length));
    }

    static void addAll(SheetRows sheet, int... octets) {
        for (int octet : octets) {
            sheet.add((byte) octet);
        }
    }

    /** A sheet made by adding and unpacking: large ones too take few calls. */
    static SheetRows sheetOfOctets(int width, int height, int... octets) {
        SheetRows sheet = new SheetRows(width, height);
        addAll(sheet, octets);
        due("unpack() of " + Arrays.toString(octets), sheet.unpack(), 1);
        return sheet;
    }

    static void duePart(String name, SheetRows sheet, int i, int... facts) {
        for (int what = 0; what < facts.length; what++) {
            due(name + " part(" + i + ", " + what + ")", sheet.part(i, what), facts[what]);
        }
    }

    static void end(String test) {
        if (wrong != 0) {
            System.out.println(test + ": " + wrong + " answers are not as due");
            System.exit(1);
        }
    }
}
