import java.util.Arrays;

/** The boundary cases of the threshold, of INVERTED and of DARK: Terms, promises 3 and 13. */
public final class ThresholdEdgesTest {
    public static void main(String[] args) {
        theFirstThresholdIsZero();
        theLastThresholdIs254();
        thereIsNoThreshold255();
        aGreyOfTheThresholdIsLow();
        aLowLotWithoutAnyAddsNothing();
        aHighLotWithoutAnyAddsNothing();
        meansAreCut();
        theLeastOfEqualSpreadsIsTold();
        allGreysAlike();
        exactlyHalfIsNotInverted();
        oneMoreThanHalfIsInverted();
        oddSheetsHaveNoExactHalf();
        sheetsOfOneGrey();
        darkAreTheLowOnesOfExactlyHalf();
        darkAreTheHighOnesOfOneMore();
        allLowOnesLeaveNothingDark();
        Check.end("ThresholdEdgesTest");
    }

    private static SheetRows rowOf(int... greys) {
        return Check.sheetOfGreys(new int[][] {greys});
    }

    private static void due(int threshold, int... greys) {
        Check.due(Arrays.toString(greys) + " threshold()", rowOf(greys).threshold(), threshold);
    }

    /** "for t from 0 to 254" */
    private static void theFirstThresholdIsZero() {
        due(0, 0, 1);
        due(0, 0, 255);
        due(0, 0, 0, 0, 1);
    }

    /** "for t from 0 to 254" */
    private static void theLastThresholdIs254() {
        due(254, 254, 255);
        due(254, 254, 254, 254, 255, 255, 255, 255);
        due(253, 253, 254);
    }

    /** All in one lot would spread by 320 only, but 255 is no t; from 0 to 23 the spread is 321, and by others more. */
    private static void thereIsNoThreshold255() {
        int[] greys = new int[48];
        Arrays.fill(greys, 89);
        greys[0] = 255;
        greys[20] = 0;
        greys[47] = 24;
        due(0, greys);
    }

    /** "the low greys are those of t or less" */
    private static void aGreyOfTheThresholdIsLow() {
        due(10, 10, 11);
        due(128, 128, 129);
        due(127, 127, 128);
        Check.due("10 10 11 inverted()", rowOf(10, 10, 11).inverted(), true);
    }

    /** "a lot without any adds nothing": 13 at t = 0, where none is low, and 13 at 19: the least is told. */
    private static void aLowLotWithoutAnyAddsNothing() {
        due(0, 15, 19, 19, 19, 19, 19, 19, 19, 22, 25);
        due(0, 7);
    }

    /** "a lot without any adds nothing": 17 from t = 14 on, where none is high; 18 at 0 and at 9, 19 at 6. */
    private static void aHighLotWithoutAnyAddsNothing() {
        due(14, 0, 6, 6, 6, 6, 6, 6, 6, 6, 6, 9, 14);
        due(0, 0);
    }

    /** "divided by how many they are, cut": 3 at t = 3, 4 at t = 0, and there 1 round a mean that is not cut. */
    private static void meansAreCut() {
        due(3, 0, 3, 4, 4, 4, 4);
    }

    /** "the t with the least spread, of these the least" */
    private static void theLeastOfEqualSpreadsIsTold() {
        due(10, 10, 200);
        due(200, 200, 255);
        due(0, 0, 1, 2);
        due(1, 0, 1, 2, 3, 5);
    }

    private static void allGreysAlike() {
        for (int grey : new int[] {0, 1, 2, 127, 128, 254, 255}) {
            SheetRows sheet = Check.sheetOf(grey, grey, "....", "....", "....");
            String name = "all " + grey;
            Check.due(name + " threshold()", sheet.threshold(), 0);
            Check.due(name + " inverted()", sheet.inverted(), grey == 0);
            Check.due(name + " parts()", sheet.parts(), 0);
            Check.due(name + " skew()", sheet.skew(), 0);
        }
        SheetRows largest = Check.sheetOfOctets(48, 48, 255, 0, 255, 0, 255, 0, 255, 0, 255, 0, 255, 0, 255, 0, 255, 0,
            255, 0, 9, 0);
        Check.due("largest of 0 threshold()", largest.threshold(), 0);
        Check.due("largest of 0 inverted()", largest.inverted(), true);
    }

    /** "INVERTED if more than half of its greys are low ones" */
    private static void exactlyHalfIsNotInverted() {
        Check.due("1 of 2 inverted()", rowOf(5, 250).inverted(), false);
        Check.due("2 of 4 inverted()", rowOf(5, 250, 5, 250).inverted(), false);
        Check.due("1152 of 2304 inverted()", Check.sheetOfOctets(48, 48, 255, 5, 255, 5, 255, 5, 255, 5, 132, 5,
            255, 250, 255, 250, 255, 250, 255, 250, 132, 250).inverted(), false);
    }

    private static void oneMoreThanHalfIsInverted() {
        Check.due("3 of 4 inverted()", rowOf(5, 5, 5, 250).inverted(), true);
        Check.due("1153 of 2304 inverted()", Check.sheetOfOctets(48, 48, 255, 5, 255, 5, 255, 5, 255, 5, 133, 5,
            255, 250, 255, 250, 255, 250, 255, 250, 131, 250).inverted(), true);
        Check.due("1151 of 2304 inverted()", Check.sheetOfOctets(48, 48, 255, 5, 255, 5, 255, 5, 255, 5, 131, 5,
            255, 250, 255, 250, 255, 250, 255, 250, 133, 250).inverted(), false);
    }

    private static void oddSheetsHaveNoExactHalf() {
        Check.due("1 of 3 inverted()", rowOf(5, 250, 250).inverted(), false);
        Check.due("2 of 3 inverted()", rowOf(5, 5, 250).inverted(), true);
        Check.due("2 of 5 inverted()", rowOf(5, 5, 250, 250, 250).inverted(), false);
        Check.due("3 of 5 inverted()", rowOf(5, 5, 5, 250, 250).inverted(), true);
    }

    private static void sheetsOfOneGrey() {
        for (int grey : new int[] {0, 1, 128, 255}) {
            SheetRows sheet = rowOf(grey);
            Check.due("one " + grey + " threshold()", sheet.threshold(), 0);
            Check.due("one " + grey + " inverted()", sheet.inverted(), grey == 0);
        }
    }

    /** "DARK are the low ones" */
    private static void darkAreTheLowOnesOfExactlyHalf() {
        SheetRows sheet = Check.sheetOf(5, 250, "###...", "...###", ".#.#.#");
        Check.due("half inverted()", sheet.inverted(), false);
        Check.due("half parts()", sheet.parts(), 1);
        Check.duePart("half", sheet, 0, 0, 0, 5, 2, 8, 23, 7);
    }

    /** "of an inverted sheet the high ones" */
    private static void darkAreTheHighOnesOfOneMore() {
        SheetRows sheet = Check.sheetOf(5, 250, "###...", "#..###", ".#.###");
        Check.due("one more inverted()", sheet.inverted(), true);
        Check.due("one more parts()", sheet.parts(), 1);
        Check.duePart("one more", sheet, 0, 0, 0, 5, 2, 7, 17, 6);
    }

    private static void allLowOnesLeaveNothingDark() {
        SheetRows sheet = rowOf(0, 6, 6, 6, 6, 6, 6, 6, 6, 6, 9, 14);
        Check.due("all low inverted()", sheet.inverted(), true);
        Check.due("all low parts()", sheet.parts(), 0);
        Check.due("all low skew()", sheet.skew(), 0);
    }
}
