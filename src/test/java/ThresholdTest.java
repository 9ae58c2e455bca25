import java.util.Arrays;

/** Promises 3 and 13: threshold, inverted. */
public final class ThresholdTest {
    public static void main(String[] args) {
        sheetsOfOneGrey();
        twoGreys();
        meansAreCut();
        farGreysWeighMore();
        bothSidesOfTheMeanCount();
        moreThanHalfIsInverted();
        nothingChanges();
        Check.end("ThresholdTest");
    }

    private static void due(int[] row, int threshold, boolean inverted) {
        SheetRows sheet = Check.sheetOfGreys(new int[][] {row});
        String name = Arrays.toString(row);
        Check.due(name + " threshold()", sheet.threshold(), threshold);
        Check.due(name + " inverted()", sheet.inverted(), inverted);
    }

    /** Every t has spread 0: the least t wins, and all greys are low ones only if they are 0. */
    private static void sheetsOfOneGrey() {
        due(new int[] {255, 255}, 0, false);
        due(new int[] {0, 0}, 0, true);
        due(new int[] {1, 1}, 0, false);
        due(new int[] {0}, 0, true);
        due(new int[] {200}, 0, false);
    }

    private static void twoGreys() {
        due(new int[] {10, 200}, 10, false);
        due(new int[] {0, 255}, 0, false);
        due(new int[] {254, 255}, 254, false);
        due(new int[] {255, 254, 254}, 254, true);
        due(new int[] {127, 128, 128}, 127, false);
    }

    /** The means of 0 1 and of 3 4 are cut to 0 and 3: by t from 1 to 2 the spread is 1 + 1, by others more. */
    private static void meansAreCut() {
        due(new int[] {0, 1, 3, 4}, 1, false);
        // t = 0: 0 | 1 2, mean 1, spread 1. t = 1: 0 1 | 2, mean 0, spread 1. The least t wins.
        due(new int[] {0, 1, 2}, 0, false);
        // t = 0: 0 | 3 4 4, mean 3, spread 2. t = 3: 0 3 | 4 4, mean 1, spread 3.
        due(new int[] {0, 3, 4, 4}, 0, false);
        // Round 4, the mean that is not cut, t = 0 would spread by 1 only; cut it is 3 and the spread 4.
        // t = 3: 0 3 | 4 4 4 4: mean 1, spread 3.
        due(new int[] {0, 3, 4, 4, 4, 4}, 3, false);
    }

    private static void farGreysWeighMore() {
        // t = 10: 0 10 | 60 255: 10 + 195. t = 60: 0 10 60 | 255: mean 23, 23 + 13 + 37.
        due(new int[] {0, 10, 60, 255}, 60, true);
        // t = 0: 0 + 100. t = 50: 66 + 50. By squares of the distances t = 50 would be the better one.
        due(new int[] {0, 0, 50, 100, 150}, 0, false);
    }

    private static void bothSidesOfTheMeanCount() {
        // The spreads: 6 at 0, 5 at 1, 5 at 2, 4 at 3. Above the means alone 0 has the least, below them alone 1.
        due(new int[] {0, 1, 2, 3, 6}, 3, true);
        // The spreads: 5 at 0, 4 at 1, 2 and 3.
        due(new int[] {0, 1, 2, 3, 5}, 1, false);
    }

    private static void moreThanHalfIsInverted() {
        due(new int[] {5, 5, 250, 250}, 5, false);
        due(new int[] {5, 5, 250}, 5, true);
        due(new int[] {5, 5, 250, 250, 250}, 5, false);
        due(new int[] {5, 5, 5, 250, 250}, 5, true);
    }

    private static void nothingChanges() {
        int[][] greys = {{9, 200}, {100, 3}};
        SheetRows sheet = Check.sheetOfGreys(greys);
        int first = sheet.threshold();
        boolean firstInverted = sheet.inverted();
        Check.due("threshold() again", sheet.threshold(), first);
        Check.due("inverted() again", sheet.inverted(), firstInverted);
        Check.dueGreys("threshold() and inverted()", sheet, greys);
        sheet.put(0, 0, (byte) 100);
        sheet.put(1, 1, (byte) 200);
        Check.due("threshold() after puts", sheet.threshold(), 100);
    }
}
