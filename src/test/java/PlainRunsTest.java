import java.util.function.IntSupplier;

/** All promises: runs of 512 calls, the same on a SheetRows and on the plain reading of the document. */
public final class PlainRunsTest {
    private static final int RUNS = 400;
    private static final int CALLS = 512;

    // Made by counting on from the run's number, so that every time the same calls are made.
    private long state;
    private final SheetRows sheet;
    private final PlainSheet plain;
    private final int width;
    private final int height;
    private final int fewGreys;
    private final String run;
    private int calls;

    public static void main(String[] args) {
        for (int seed = 0; seed < RUNS; seed++) {
            new PlainRunsTest(seed).go();
        }
        Check.end("PlainRunsTest");
    }

    private PlainRunsTest(int seed) {
        state = seed;
        int most = seed % 5 == 0 ? 52 : 12;
        int givenWidth = below(most) - 1;
        int givenHeight = below(most) - 1;
        sheet = new SheetRows(givenWidth, givenHeight);
        plain = new PlainSheet(givenWidth, givenHeight);
        width = Math.max(1, Math.min(48, givenWidth));
        height = Math.max(1, Math.min(48, givenHeight));
        fewGreys = new int[] {2, 3, 8, 256}[below(4)];
        run = "run " + seed + " (" + givenWidth + ", " + givenHeight + ") ";
    }

    private int below(int end) {
        state = state * 6364136223846793005L + 1442695040888963407L;
        return (int) ((state >>> 33) % end);
    }

    private void go() {
        fillSheets();
        while (calls < CALLS) {
            oneCall();
            sameGrey();
        }
    }

    /** The same call on both, while the object has calls left: what it answers later is free. */
    private void same(String call, IntSupplier got, IntSupplier want) {
        if (calls < CALLS) {
            calls++;
            Check.due(run + "call " + calls + " " + call, Check.answerOf(got), Check.answerOf(want));
        }
    }

    /** Many greys at the start: those of small sheets one by one, those of large ones by stretches. */
    private void fillSheets() {
        if (width * height > CALLS / 4) {
            sameAdds();
            sameUnpack();
            return;
        }
        int bright = below(10);
        for (int i = 0; i < width * height; i++) {
            if (below(10) >= bright) {
                samePut(i % width, i / width);
            }
        }
    }

    private byte anyGrey() {
        return (byte) (below(fewGreys) * (255 / (fewGreys - 1)));
    }

    private int anyAround(int end) {
        return below(20) == 0 ? new int[] {-1, end, Integer.MIN_VALUE, Integer.MAX_VALUE}[below(4)]
            : below(end);
    }

    private void oneCall() {
        switch (below(14)) {
            case 0, 1, 2 -> samePut(anyAround(width), anyAround(height));
            case 3 -> same("threshold()", sheet::threshold, plain::threshold);
            case 4 -> same("inverted()", () -> sheet.inverted() ? 1 : 0, () -> plain.inverted() ? 1 : 0);
            case 5 -> same("parts()", sheet::parts, plain::parts);
            case 6 -> samePart();
            case 7 -> same("skew()", sheet::skew, plain::skew);
            case 8 -> sameTurn();
            case 9 -> same("pack()", sheet::pack, plain::pack);
            case 10 -> sameOctet();
            case 11 -> sameAdds();
            case 12 -> sameUnpack();
            default -> sameSide();
        }
    }

    private void samePut(int x, int y) {
        byte v = anyGrey();
        same("put(" + x + ", " + y + ", " + v + ")", () -> {
            sheet.put(x, y, v);
            return 0;
        }, () -> {
            plain.put(x, y, v);
            return 0;
        });
    }

    /** All that can be asked of one part, of the first few more often than of later ones. */
    private void samePart() {
        int i = below(1 + below(20)) - (below(20) == 0 ? 1 : 0);
        for (int what = -1; what < 8; what++) {
            int asked = what;
            same("part(" + i + ", " + what + ")", () -> sheet.part(i, asked), () -> plain.part(i, asked));
        }
    }

    private void sameTurn() {
        int b = below(210) - 105;
        same("turn(" + b + ")", () -> sheet.turn(b), () -> plain.turn(b));
    }

    private void sameOctet() {
        int i = anyAround(below(2) == 0 ? 12 : 2 * width * height);
        same("octet(" + i + ")", () -> sheet.octet(i), () -> plain.octet(i));
    }

    private void sameUnpack() {
        same("unpack()", sheet::unpack, plain::unpack);
    }

    private void sameSide() {
        int other = below(12) == 0 ? 3 : below(4) == 3 ? 4 : below(3);
        same("side(" + other + ")", () -> sheet.side(other), () -> plain.side(other));
    }

    private void sameGrey() {
        int x = anyAround(width);
        int y = anyAround(height);
        same("grey(" + x + ", " + y + ")", () -> sheet.grey(x, y), () -> plain.grey(x, y));
    }

    private void sameAdd(int octet) {
        same("add(" + octet + ")", () -> {
            sheet.add((byte) octet);
            return 0;
        }, () -> {
            plain.add((byte) octet);
            return 0;
        });
    }

    /** Stretches that fill the sheet, most often; now and then with something wrong in them. */
    private void sameAdds() {
        int left = width * height;
        int shortPairs = 5 + below(40);
        for (int pairs = 0; left > 0 && pairs < shortPairs + 10; pairs++) {
            int count = Math.min(left, pairs < shortPairs ? 1 + below(Math.min(255, 1 + left / 3)) : 255);
            left -= count;
            sameAdd(below(60) == 0 ? below(256) : count);
            if (below(60) != 0) {
                sameAdd(anyGrey());
            }
        }
        if (below(10) == 0) {
            sameAdd(below(3));
        }
    }
}
