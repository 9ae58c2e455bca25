/** All promises: long runs of calls, the same on a SheetRows and on the plain reading of the document. */
public final class PlainRunsTest {
    private static final int RUNS = 150;
    private static final int CALLS = 512;

    // Made by counting on from the run's number, so that every time the same calls are made.
    private long state;
    private final SheetRows sheet;
    private final PlainSheet plain;
    private final int width;
    private final int height;
    private final int fewGreys;
    private final String run;

    public static void main(String[] args) {
        for (int seed = 0; seed < RUNS; seed++) {
            new PlainRunsTest(seed).go();
        }
        Check.end("PlainRunsTest");
    }

    private PlainRunsTest(int seed) {
        state = seed;
        int most = seed % 5 == 0 ? 52 : 12;
        int givenWidth = below(most) - 1;
        int givenHeight = below(most) - 1;
        sheet = new SheetRows(givenWidth, givenHeight);
        plain = new PlainSheet(givenWidth, givenHeight);
        width = Math.max(1, Math.min(48, givenWidth));
        height = Math.max(1, Math.min(48, givenHeight));
        fewGreys = new int[] {2, 3, 8, 256}[below(4)];
        run = "run " + seed + " (" + givenWidth + ", " + givenHeight + ") ";
    }

    private int below(int end) {
        state = state * 6364136223846793005L + 1442695040888963407L;
        return (int) ((state >>> 33) % end);
    }

    private void go() {
        fillSheets();
        for (int call = 0; call < CALLS; call++) {
            oneCall(call);
        }
        sameGreys();
    }

    /** Many greys at once, by calls that are not counted among the 512: these only set the stage. */
    private void fillSheets() {
        int bright = below(10);
        for (int i = 0; i < width * height; i++) {
            if (below(10) >= bright) {
                byte v = anyGrey();
                sheet.put(i % width, i / width, v);
                plain.put(i % width, i / width, v);
            }
        }
    }

    private byte anyGrey() {
        return (byte) (below(fewGreys) * (255 / (fewGreys - 1)));
    }

    private int anyAround(int end) {
        return below(20) == 0 ? new int[] {-1, end, Integer.MIN_VALUE, Integer.MAX_VALUE}[below(4)]
            : below(end);
    }

    private void oneCall(int call) {
        String at = run + "call " + call + " ";
        switch (below(14)) {
            case 0, 1, 2 -> samePut(at);
            case 3 -> Check.due(at + "threshold()", sheet.threshold(), plain.threshold());
            case 4 -> Check.due(at + "inverted()", sheet.inverted(), plain.inverted());
            case 5 -> Check.due(at + "parts()", sheet.parts(), plain.parts());
            case 6 -> sameParts(at);
            case 7 -> Check.due(at + "skew()", sheet.skew(), plain.skew());
            case 8 -> {
                int b = below(210) - 105;
                Check.due(at + "turn(" + b + ")", sheet.turn(b), plain.turn(b));
            }
            case 9 -> Check.due(at + "pack()", sheet.pack(), plain.pack());
            case 10 -> sameOctet(at);
            case 11 -> sameAdds();
            case 12 -> Check.due(at + "unpack()", sheet.unpack(), plain.unpack());
            default -> {
                int other = below(12) == 0 ? 3 : below(4) == 3 ? 4 : below(3);
                Check.due(at + "side(" + other + ")", sheet.side(other), plain.side(other));
            }
        }
        sameGrey(at);
    }

    private void samePut(String at) {
        int x = anyAround(width);
        int y = anyAround(height);
        byte v = anyGrey();
        int got = Check.putAnswer(sheet, x, y, v);
        int want = Check.answerOf(() -> {
            plain.put(x, y, v);
            return 0;
        });
        Check.due(at + "put(" + x + ", " + y + ")", got, want);
    }

    private void sameParts(String at) {
        for (int i = -1; i < 20; i++) {
            for (int what = -1; what < 8; what++) {
                Check.due(at + "part(" + i + ", " + what + ")", sheet.part(i, what), plain.part(i, what));
            }
        }
    }

    private void sameOctet(String at) {
        int i = anyAround(2 * width * height);
        Check.due(at + "octet(" + i + ")", Check.answerOf(() -> sheet.octet(i)), Check.answerOf(() -> plain.octet(i)));
    }

    private void sameGrey(String at) {
        int x = anyAround(width);
        int y = anyAround(height);
        Check.due(at + "grey(" + x + ", " + y + ")",
            Check.answerOf(() -> sheet.grey(x, y)), Check.answerOf(() -> plain.grey(x, y)));
    }

    private void addBoth(int b) {
        sheet.add((byte) b);
        plain.add((byte) b);
    }

    /** Stretches that fill the sheet, most often; now and then with something wrong in them. */
    private void sameAdds() {
        int left = width * height;
        for (int pairs = 0; left > 0 && pairs < 60; pairs++) {
            int count = Math.min(left, pairs < 50 ? 1 + below(Math.min(255, 1 + left / 3)) : 255);
            left -= count;
            addBoth(below(60) == 0 ? below(256) : count);
            if (below(60) != 0) {
                addBoth(anyGrey());
            }
        }
        if (below(10) == 0) {
            addBoth(below(3));
        }
    }

    private void sameGreys() {
        for (int i = 0; i < width * height; i++) {
            int x = i % width;
            int y = i / width;
            Check.due(run + "grey(" + x + ", " + y + ") at the end", sheet.grey(x, y), plain.grey(x, y));
        }
    }
}
