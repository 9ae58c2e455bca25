import java.util.Arrays;

/** The boundary cases of what is collected and read: promises 10 and 11. */
public final class CollectEdgesTest {
    private static final int[][] GREYS = {{1, 2, 3}, {4, 5, 6}};

    public static void main(String[] args) {
        the5000thIsCollectedAndTheNextIsNot();
        theMostThat512CallsCanCollect();
        stretchesNeedNotBeAsLongAsCanBe();
        theSmallestSheetIsRead();
        aReadingLikeTheSheetIsRightToo();
        numbersAreNotBelowZero();
        aNumberThatIsZeroIsWrong();
        aNumberBeyondTheSheetIsWrong();
        aNumberUpToTheSheetsEndIsRight();
        lessBytesThanPairsAreWrongAtTheLength();
        lessGreysThanTheSheetHasAreWrongAtTheLength();
        nothingCollectedIsWrongAtZero();
        moreBytesAreWrongBehindThemAll();
        theFirstOfSeveralWrongBytesIsTold();
        nothingIsCollectedAfterARightReading();
        nothingIsCollectedAfterAWrongReading();
        theSheetStaysAfterAWrongReading();
        addingDoesNotChangeTheSheet();
        Check.end("CollectEdgesTest");
    }

    private static SheetRows given(int... octets) {
        SheetRows sheet = Check.sheetOfGreys(GREYS);
        Check.addAll(sheet, octets);
        return sheet;
    }

    private static void dueWrong(int place, int... octets) {
        String name = Arrays.toString(octets);
        SheetRows sheet = given(octets);
        Check.due(name + " unpack()", sheet.unpack(), -1 - place);
        Check.dueGreys(name + " unpack()", sheet, GREYS);
    }

    private static void dueRight(int[][] greys, int... octets) {
        String name = Arrays.toString(octets);
        SheetRows sheet = given(octets);
        Check.due(name + " unpack()", sheet.unpack(), 1);
        Check.dueGreys(name + " unpack()", sheet, greys);
    }

    /**
     * "A byte is collected; it is not when there are 5000": no reading goes beyond byte 4608 and no object has so many
     * calls, so no answer is asked for here: what the object holds is looked at.
     */
    private static void the5000thIsCollectedAndTheNextIsNot() {
        SheetRows sheet = new SheetRows(2, 2);
        for (int i = 0; i < 4999; i++) {
            sheet.add((byte) 1);
        }
        String before = Held.by(sheet);
        sheet.add((byte) 2);
        String full = Held.by(sheet);
        Check.due("the 5000th is collected", full.equals(before), false);
        sheet.add((byte) 3);
        Check.due("the 5001st is not collected", Held.by(sheet).equals(full), true);
        sheet.add((byte) 4);
        Check.due("the 5002nd is not collected", Held.by(sheet).equals(full), true);
    }

    /** As many bytes as an object has calls for, but the one that reads them: all are collected, in their order. */
    private static void theMostThat512CallsCanCollect() {
        SheetRows ones = new SheetRows(48, 48);
        for (int i = 0; i < 511; i++) {
            ones.add((byte) 1);
        }
        Check.due("unpack() of 511 ones", ones.unpack(), -1 - 511);
        SheetRows zeroLast = new SheetRows(48, 48);
        for (int i = 0; i < 510; i++) {
            zeroLast.add((byte) 1);
        }
        zeroLast.add((byte) 0);
        Check.due("unpack() of 510 ones and 0", zeroLast.unpack(), -1 - 510);
    }

    /** "(stretches need not be as long as can be)" */
    private static void stretchesNeedNotBeAsLongAsCanBe() {
        dueRight(new int[][] {{9, 9, 9}, {9, 9, 9}}, 6, 9);
        dueRight(new int[][] {{9, 9, 9}, {9, 9, 9}}, 3, 9, 3, 9);
        dueRight(new int[][] {{9, 9, 9}, {9, 9, 9}}, 1, 9, 1, 9, 1, 9, 1, 9, 1, 9, 1, 9);
        dueRight(new int[][] {{9, 9, 9}, {8, 8, 9}}, 2, 9, 1, 9, 1, 8, 1, 8, 1, 9);
    }

    private static void theSmallestSheetIsRead() {
        SheetRows sheet = new SheetRows(1, 1);
        Check.addAll(sheet, 1, 0);
        Check.due("1 x 1 unpack()", sheet.unpack(), 1);
        Check.due("1 x 1 grey(0, 0)", sheet.grey(0, 0), 0);
        Check.addAll(sheet, 2, 7);
        Check.due("1 x 1 unpack() of two", sheet.unpack(), -1);
        Check.addAll(sheet, 1, 7, 1);
        Check.due("1 x 1 unpack() of more", sheet.unpack(), -3);
        Check.due("1 x 1 grey(0, 0) stays", sheet.grey(0, 0), 0);
    }

    /** "1, and it is the sheet": though no grey becomes another one. */
    private static void aReadingLikeTheSheetIsRightToo() {
        dueRight(GREYS, 1, 1, 1, 2, 1, 3, 1, 4, 1, 5, 1, 6);
    }

    /** The bytes from -128 to -1 are numbers from 128 to 255, of greys and as greys. */
    private static void numbersAreNotBelowZero() {
        SheetRows sheet = new SheetRows(47, 17);
        Check.addAll(sheet, 127, 127, 128, 128, 255, 255, 254, 0, 35, 254);
        Check.due("unpack() of 799", sheet.unpack(), 1);
        int[] places = {0, 126, 127, 254, 255, 509, 510, 763, 764, 798};
        int[] greys = {127, 127, 128, 128, 255, 255, 0, 0, 254, 254};
        for (int i = 0; i < places.length; i++) {
            Check.due("grey " + places[i], sheet.grey(places[i] % 47, places[i] / 47), greys[i]);
        }
    }

    /** "a number of greys that is 0": at the start, between, at the end, and where its grey is lacking. */
    private static void aNumberThatIsZeroIsWrong() {
        dueWrong(0, 0, 7);
        dueWrong(0, 0, 7, 6, 7);
        dueWrong(2, 2, 7, 0, 7, 4, 7);
        dueWrong(2, 5, 7, 0, 7);
        dueWrong(4, 2, 7, 3, 7, 0, 7, 1, 7);
        dueWrong(0, 0);
        dueWrong(2, 2, 7, 0);
    }

    /** "or goes beyond the sheet": by one, by many, at the start, at the end, and where its grey is lacking. */
    private static void aNumberBeyondTheSheetIsWrong() {
        dueWrong(0, 7, 7);
        dueWrong(0, 127, 7);
        dueWrong(0, 128, 7);
        dueWrong(0, 255, 7);
        dueWrong(2, 2, 7, 5, 7);
        dueWrong(2, 5, 7, 2, 7);
        dueWrong(2, 5, 7, 255, 7);
        dueWrong(4, 2, 7, 2, 7, 3, 7);
        dueWrong(0, 7);
        dueWrong(2, 2, 7, 5);
    }

    private static void aNumberUpToTheSheetsEndIsRight() {
        dueRight(new int[][] {{7, 7, 7}, {7, 7, 7}}, 6, 7);
        dueRight(new int[][] {{7, 7, 8}, {8, 8, 8}}, 2, 7, 4, 8);
        dueRight(new int[][] {{7, 7, 7}, {7, 7, 8}}, 5, 7, 1, 8);
        SheetRows sheet = new SheetRows(15, 17);
        Check.addAll(sheet, 255, 4);
        Check.due("unpack() of 255", sheet.unpack(), 1);
        Check.due("grey(14, 16)", sheet.grey(14, 16), 4);
        SheetRows smaller = new SheetRows(16, 15);
        Check.addAll(smaller, 241, 4);
        Check.due("unpack() of 241 on 240", smaller.unpack(), -1);
    }

    /** "the length, if there are less bytes than pairs": the number is there and right, its grey is not. */
    private static void lessBytesThanPairsAreWrongAtTheLength() {
        dueWrong(1, 6);
        dueWrong(1, 1);
        dueWrong(3, 2, 7, 4);
        dueWrong(3, 2, 7, 3);
        dueWrong(5, 2, 7, 3, 7, 1);
    }

    /** "the length, if there are .. less greys than the sheet has" */
    private static void lessGreysThanTheSheetHasAreWrongAtTheLength() {
        dueWrong(2, 5, 7);
        dueWrong(2, 1, 7);
        dueWrong(4, 2, 7, 3, 7);
        dueWrong(10, 1, 7, 1, 7, 1, 7, 1, 7, 1, 7);
        SheetRows sheet = new SheetRows(16, 16);
        Check.addAll(sheet, 255, 4);
        Check.due("unpack() of 255 on 256", sheet.unpack(), -3);
    }

    private static void nothingCollectedIsWrongAtZero() {
        dueWrong(0);
        Check.due("1 x 1 unpack() of nothing", new SheetRows(1, 1).unpack(), -1);
        Check.due("48 x 48 unpack() of nothing", new SheetRows(48, 48).unpack(), -1);
    }

    /** "the first byte behind them all, if there are more": whatever it is, and however many there are. */
    private static void moreBytesAreWrongBehindThemAll() {
        dueWrong(2, 6, 7, 0);
        dueWrong(2, 6, 7, 1);
        dueWrong(2, 6, 7, 255);
        dueWrong(2, 6, 7, 0, 7);
        dueWrong(2, 6, 7, 1, 7);
        dueWrong(2, 6, 7, 6, 7);
        dueWrong(2, 6, 7, 1, 7, 1);
        dueWrong(4, 2, 7, 4, 7, 1);
        dueWrong(12, 1, 7, 1, 7, 1, 7, 1, 7, 1, 7, 1, 7, 1, 7);
    }

    /** "the place of the first byte that is wrong" */
    private static void theFirstOfSeveralWrongBytesIsTold() {
        dueWrong(0, 0, 7, 0, 7);
        dueWrong(0, 0, 7, 7);
        dueWrong(0, 7, 7, 0, 7, 1);
        dueWrong(2, 2, 7, 0, 7, 9, 7);
        dueWrong(2, 2, 7, 9, 7, 0, 7);
        dueWrong(2, 2, 7, 5, 7, 3);
    }

    /** "and nothing is collected then": 1 is answered first. */
    private static void nothingIsCollectedAfterARightReading() {
        SheetRows sheet = given(6, 50);
        Check.due("unpack()", sheet.unpack(), 1);
        Check.due("unpack() of nothing", sheet.unpack(), -1);
        Check.addAll(sheet, 6, 60);
        Check.due("unpack() of others", sheet.unpack(), 1);
        Check.dueGreys("unpack() of others", sheet, new int[][] {{60, 60, 60}, {60, 60, 60}});
    }

    /** "and nothing is collected then": after each kind of wrong reading, a right one can be collected at once. */
    private static void nothingIsCollectedAfterAWrongReading() {
        int[][] wrong = {{0, 7}, {0}, {7, 7}, {2, 7, 5, 7}, {6}, {2, 7, 4}, {5, 7}, {6, 7, 1}, {6, 7, 0, 7}, {}};
        for (int[] octets : wrong) {
            String name = "after a wrong " + Arrays.toString(octets);
            SheetRows sheet = given(octets);
            Check.due(name + " it is wrong", sheet.unpack() < 0, true);
            Check.due(name + " unpack() of nothing", sheet.unpack(), -1);
            Check.addAll(sheet, 6, 70);
            Check.due(name + " unpack()", sheet.unpack(), 1);
            Check.dueGreys(name, sheet, new int[][] {{70, 70, 70}, {70, 70, 70}});
        }
    }

    /** "and the sheet stays": with its parts and packed bytes, though the first greys could be read. */
    private static void theSheetStaysAfterAWrongReading() {
        // The stage has collected 20, 99, 4: 24 greys fill its sheet.
        int[][] rest = {{}, {98, 1}, {98, 0, 1}, {98, 1, 1}};
        int[] places = {3, 4, 4, 4};
        for (int i = 0; i < rest.length; i++) {
            Stage stage = new Stage();
            Check.addAll(stage.sheet, rest[i]);
            String name = "a wrong unpack() " + i;
            Check.due(name, stage.sheet.unpack(), -1 - places[i]);
            stage.dueSheet(name);
        }
    }

    private static void addingDoesNotChangeTheSheet() {
        SheetRows sheet = given(6, 50, 3);
        Check.dueGreys("add", sheet, GREYS);
        Check.dueOutside("octet(0) after add", () -> sheet.octet(0));
    }
}
