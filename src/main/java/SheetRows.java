import java.util.Arrays;

/** A sheet of grey bytes: threshold, dark parts, lean and shears, packed rows, turned and halved sheets. */
public final class SheetRows {
    public static final int NONE = -1;

    private static final int MOST_SIDE = 48;
    private static final int BRIGHTEST = 255;
    private static final int GREYS = BRIGHTEST + 1;
    private static final int LEAST_PART = 3;
    private static final int PART_FACTS = 7;
    private static final int SHEAR_STEP = 32;
    private static final int MOST_SHEAR = 100;
    private static final int MOST_LEAN = 8;
    private static final int LONGEST_STRETCH = 255;
    private static final int MOST_COLLECTED = 5000;

    private final int width;
    private final int height;
    private byte[] greys;
    // The next sheet is built here and then changes places with greys, so that no call makes an array.
    private byte[] spare;

    // At v: how many greys are below v, and their sum.
    private final int[] countBelow;
    private final int[] sumBelow;

    private final boolean[] dark;
    private final int[] darkInRow;

    private final int[] reached;
    private int reachedCount;
    private final int[] partFacts;
    private int partCount;

    private final byte[] packed;
    private int packedCount;
    private final byte[] collected;
    private int collectedCount;

    public SheetRows(int width, int height) {
        this.width = Math.max(1, Math.min(MOST_SIDE, width));
        this.height = Math.max(1, Math.min(MOST_SIDE, height));
        int size = this.width * this.height;
        greys = new byte[size];
        spare = new byte[size];
        countBelow = new int[GREYS + 1];
        sumBelow = new int[GREYS + 1];
        dark = new boolean[size];
        darkInRow = new int[this.height];
        reached = new int[size];
        partFacts = new int[size / LEAST_PART * PART_FACTS];
        packed = new byte[2 * size];
        collected = new byte[MOST_COLLECTED];
        Arrays.fill(greys, (byte) BRIGHTEST);
    }

    public void put(int x, int y, byte v) throws ArrayIndexOutOfBoundsException {
        if (!isOnSheet(x, y)) {
            throw new ArrayIndexOutOfBoundsException("the place is not on the sheet");
        }
        greys[y * width + x] = v;
    }

    public int threshold() {
        tallyGreys();
        int best = 0;
        int bestSpread = spreadAt(0);
        for (int t = 1; t < GREYS - 1; t++) {
            int spread = spreadAt(t);
            if (spread < bestSpread) {
                best = t;
                bestSpread = spread;
            }
        }
        return best;
    }

    public int parts() {
        markDark();
        partCount = 0;
        for (int place = 0; place < dark.length; place++) {
            if (dark[place]) {
                reachPart(place);
                if (reachedCount >= LEAST_PART) {
                    keepPart();
                }
            }
        }
        return partCount;
    }

    public int part(int i, int what) {
        if (i < 0 || i >= partCount || what < 0 || what >= PART_FACTS) {
            return NONE;
        }
        return partFacts[i * PART_FACTS + what];
    }

    public int skew() {
        markDark();
        int best = 0;
        int bestSum = sumOfSquares(0);
        // From the middle outwards, below 0 first: then the first of equal ones is the one that is asked for.
        for (int away = 1; away <= MOST_LEAN; away++) {
            int below = sumOfSquares(-away);
            if (below > bestSum) {
                best = -away;
                bestSum = below;
            }
            int above = sumOfSquares(away);
            if (above > bestSum) {
                best = away;
                bestSum = above;
            }
        }
        return best;
    }

    public int turn(int b) {
        if (b < -MOST_SHEAR || b > MOST_SHEAR) {
            return NONE;
        }
        for (int x = 0; x < width; x++) {
            int down = shearAt(x, b);
            for (int y = 0; y < height; y++) {
                spare[(y + down) % height * width + x] = greys[y * width + x];
            }
        }
        return takeSpare();
    }

    public int pack() {
        packedCount = 0;
        int start = 0;
        for (int place = 1; place <= greys.length; place++) {
            if (place == greys.length || place - start == LONGEST_STRETCH || greys[place] != greys[start]) {
                packStretch(place - start, greys[start]);
                start = place;
            }
        }
        return packedCount;
    }

    public byte octet(int i) throws ArrayIndexOutOfBoundsException {
        if (i < 0 || i >= packedCount) {
            throw new ArrayIndexOutOfBoundsException("no such byte was packed");
        }
        return packed[i];
    }

    public void add(byte b) {
        if (collectedCount < MOST_COLLECTED) {
            collected[collectedCount] = b;
            collectedCount++;
        }
    }

    public int unpack() {
        int wrong = readCollected();
        collectedCount = 0;
        if (wrong != NONE) {
            return -1 - wrong;
        }
        takeSpare();
        return 1;
    }

    public int side(int other) {
        switch (other) {
            case 0:
                mirrorRows();
                break;
            case 1:
                reverseRows();
                break;
            case 2:
                invertGreys();
                break;
            case 3:
                halve();
                break;
            default:
                return NONE;
        }
        return takeSpare();
    }

    public boolean inverted() {
        return hasMostlyLow(threshold());
    }

    public int grey(int x, int y) throws ArrayIndexOutOfBoundsException {
        if (!isOnSheet(x, y)) {
            throw new ArrayIndexOutOfBoundsException("the place is not on the sheet");
        }
        return greys[y * width + x] & 255;
    }

    private boolean isOnSheet(int x, int y) {
        return x >= 0 && x < width && y >= 0 && y < height;
    }

    /** Makes the spare sheet the sheet; answers how many greys differ. */
    private int takeSpare() {
        int others = 0;
        for (int place = 0; place < greys.length; place++) {
            if (greys[place] != spare[place]) {
                others++;
            }
        }
        byte[] old = greys;
        greys = spare;
        spare = old;
        return others;
    }

    private void tallyGreys() {
        Arrays.fill(countBelow, 0);
        for (int place = 0; place < greys.length; place++) {
            countBelow[(greys[place] & 255) + 1]++;
        }
        sumBelow[0] = 0;
        for (int v = 1; v <= GREYS; v++) {
            sumBelow[v] = sumBelow[v - 1] + countBelow[v] * (v - 1);
            countBelow[v] += countBelow[v - 1];
        }
    }

    private int spreadAt(int t) {
        return spreadOfLot(0, t + 1) + spreadOfLot(t + 1, GREYS);
    }

    /** The spread of the greys from .. end - 1 round their mean, by the latest tally. */
    private int spreadOfLot(int from, int end) {
        int count = countBelow[end] - countBelow[from];
        if (count <= 0) {
            return 0;
        }
        int mean = (sumBelow[end] - sumBelow[from]) / count;
        int middle = mean + 1;
        int below = mean * (countBelow[middle] - countBelow[from]) - (sumBelow[middle] - sumBelow[from]);
        int above = sumBelow[end] - sumBelow[middle] - mean * (countBelow[end] - countBelow[middle]);
        return below + above;
    }

    /** Goes by the tally that the search for the threshold t has left. */
    private boolean hasMostlyLow(int t) {
        return 2 * countBelow[t + 1] > greys.length;
    }

    private void markDark() {
        int t = threshold();
        boolean darkIsLow = !hasMostlyLow(t);
        for (int place = 0; place < greys.length; place++) {
            boolean low = (greys[place] & 255) <= t;
            dark[place] = low == darkIsLow;
        }
    }

    /** Lists all dark places that hang together with the start, and takes their dark marks away. */
    private void reachPart(int start) {
        reachedCount = 0;
        reach(start);
        for (int next = 0; next < reachedCount && next < reached.length; next++) {
            reachAround(reached[next] % width, reached[next] / width);
        }
    }

    private void reachAround(int x, int y) {
        for (int row = Math.max(0, y - 1); row <= Math.min(height - 1, y + 1); row++) {
            for (int column = Math.max(0, x - 1); column <= Math.min(width - 1, x + 1); column++) {
                reach(row * width + column);
            }
        }
    }

    private void reach(int place) {
        if (dark[place] && reachedCount < reached.length) {
            dark[place] = false;
            reached[reachedCount] = place;
            reachedCount++;
        }
    }

    private void keepPart() {
        int at = partCount * PART_FACTS;
        if (at + PART_FACTS > partFacts.length) {
            return;
        }
        int leastX = width;
        int leastY = height;
        int greatestX = 0;
        int greatestY = 0;
        int sumX = 0;
        int sumY = 0;
        for (int i = 0; i < reachedCount; i++) {
            int x = reached[i] % width;
            int y = reached[i] / width;
            leastX = Math.min(leastX, x);
            leastY = Math.min(leastY, y);
            greatestX = Math.max(greatestX, x);
            greatestY = Math.max(greatestY, y);
            sumX += x;
            sumY += y;
        }
        partFacts[at] = leastX;
        partFacts[at + 1] = leastY;
        partFacts[at + 2] = greatestX;
        partFacts[at + 3] = greatestY;
        partFacts[at + 4] = reachedCount;
        partFacts[at + 5] = sumX;
        partFacts[at + 6] = sumY;
        partCount++;
    }

    /** How far down, in 0 .. height - 1, a shear by b brings the greys of column x. */
    private int shearAt(int x, int b) {
        return Math.floorMod(Math.floorDiv(b * x, SHEAR_STEP), height);
    }

    private int sumOfSquares(int b) {
        Arrays.fill(darkInRow, 0);
        for (int x = 0; x < width; x++) {
            int down = shearAt(x, b);
            for (int y = 0; y < height; y++) {
                if (dark[y * width + x]) {
                    darkInRow[(y + down) % height]++;
                }
            }
        }
        int sum = 0;
        for (int y = 0; y < height; y++) {
            sum += darkInRow[y] * darkInRow[y];
        }
        return sum;
    }

    private void packStretch(int count, byte grey) {
        if (packedCount + 2 <= packed.length) {
            packed[packedCount] = (byte) count;
            packed[packedCount + 1] = grey;
            packedCount += 2;
        }
    }

    /** Reads what was collected into the spare sheet; answers the place of the first wrong byte, or NONE. */
    private int readCollected() {
        int filled = 0;
        for (int place = 0; place < collectedCount; place += 2) {
            int count = collected[place] & 255;
            // On a full sheet this refuses any number: that is the first byte behind them all.
            if (count == 0 || count > spare.length - filled) {
                return place;
            }
            if (place + 1 >= collectedCount) {
                return collectedCount;
            }
            int end = filled + count;
            for (int i = filled; i < end; i++) {
                spare[i] = collected[place + 1];
            }
            filled = end;
        }
        return filled < spare.length ? collectedCount : NONE;
    }

    private void mirrorRows() {
        for (int y = 0; y < height; y++) {
            for (int x = 0; x < width; x++) {
                spare[y * width + x] = greys[y * width + width - 1 - x];
            }
        }
    }

    private void reverseRows() {
        for (int y = 0; y < height; y++) {
            for (int x = 0; x < width; x++) {
                spare[y * width + x] = greys[(height - 1 - y) * width + x];
            }
        }
    }

    private void invertGreys() {
        for (int place = 0; place < greys.length; place++) {
            spare[place] = (byte) (BRIGHTEST - (greys[place] & 255));
        }
    }

    private void halve() {
        Arrays.fill(spare, (byte) BRIGHTEST);
        for (int y = 0; y < height / 2; y++) {
            for (int x = 0; x < width / 2; x++) {
                spare[y * width + x] = meanOfFour(2 * y * width + 2 * x);
            }
        }
    }

    private byte meanOfFour(int place) {
        int upper = (greys[place] & 255) + (greys[place + 1] & 255);
        int lower = (greys[place + width] & 255) + (greys[place + width + 1] & 255);
        return (byte) ((upper + lower) / 4);
    }
}
