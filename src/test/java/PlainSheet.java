import java.util.ArrayDeque;
import java.util.ArrayList;
import java.util.Arrays;
import java.util.List;
import java.util.TreeMap;

/** The document's words as plain code, without a thought of speed: what SheetRows is compared with. */
final class PlainSheet {
    private final int width;
    private final int height;
    private int[][] greys;
    private List<int[]> parts = new ArrayList<>();
    private List<Integer> packed = new ArrayList<>();
    private List<Integer> collected = new ArrayList<>();

    PlainSheet(int width, int height) {
        this.width = width < 1 ? 1 : width > 48 ? 48 : width;
        this.height = height < 1 ? 1 : height > 48 ? 48 : height;
        greys = brightGreys();
    }

    private int[][] brightGreys() {
        int[][] bright = new int[height][width];
        for (int[] row : bright) {
            Arrays.fill(row, 255);
        }
        return bright;
    }

    private int become(int[][] next) {
        int others = 0;
        for (int y = 0; y < height; y++) {
            for (int x = 0; x < width; x++) {
                others += next[y][x] == greys[y][x] ? 0 : 1;
            }
        }
        greys = next;
        return others;
    }

    private List<Integer> row() {
        List<Integer> row = new ArrayList<>();
        for (int[] line : greys) {
            for (int grey : line) {
                row.add(grey);
            }
        }
        return row;
    }

    private void look(int x, int y) {
        if (x < 0 || y < 0 || x >= width || y >= height) {
            throw new ArrayIndexOutOfBoundsException();
        }
    }

    void put(int x, int y, byte v) {
        look(x, y);
        greys[y][x] = Byte.toUnsignedInt(v);
    }

    int grey(int x, int y) {
        look(x, y);
        return greys[y][x];
    }

    private static long spread(int[] row, int from, int to) {
        long count = 0;
        long sum = 0;
        for (int grey : row) {
            if (grey >= from && grey <= to) {
                count++;
                sum += grey;
            }
        }
        long far = 0;
        for (int grey : row) {
            if (grey >= from && grey <= to) {
                far += Math.abs(grey - sum / count);
            }
        }
        return far;
    }

    int threshold() {
        int[] row = row().stream().mapToInt(g -> g).toArray();
        int best = -1;
        long least = Long.MAX_VALUE;
        for (int t = 0; t <= 254; t++) {
            long spread = spread(row, 0, t) + spread(row, t + 1, 255);
            if (spread < least) {
                least = spread;
                best = t;
            }
        }
        return best;
    }

    boolean inverted() {
        return invertedBy(threshold());
    }

    private boolean invertedBy(int t) {
        return row().stream().filter(g -> g <= t).count() > width * height / 2.0;
    }

    private boolean[][] dark() {
        int t = threshold();
        boolean inverted = invertedBy(t);
        boolean[][] dark = new boolean[height][width];
        for (int y = 0; y < height; y++) {
            for (int x = 0; x < width; x++) {
                dark[y][x] = inverted ? greys[y][x] > t : greys[y][x] <= t;
            }
        }
        return dark;
    }

    int parts() {
        boolean[][] dark = dark();
        parts = new ArrayList<>();
        for (int y = 0; y < height; y++) {
            for (int x = 0; x < width; x++) {
                if (dark[y][x]) {
                    int[] facts = takeOut(dark, x, y);
                    if (facts[4] >= 3) {
                        parts.add(facts);
                    }
                }
            }
        }
        return parts.size();
    }

    private int[] takeOut(boolean[][] dark, int startX, int startY) {
        int[] facts = {99, 99, -1, -1, 0, 0, 0};
        ArrayDeque<int[]> open = new ArrayDeque<>();
        open.push(new int[] {startX, startY});
        while (!open.isEmpty()) {
            int[] place = open.pop();
            int x = place[0];
            int y = place[1];
            if (x < 0 || y < 0 || x >= width || y >= height || !dark[y][x]) {
                continue;
            }
            dark[y][x] = false;
            facts[0] = Math.min(facts[0], x);
            facts[1] = Math.min(facts[1], y);
            facts[2] = Math.max(facts[2], x);
            facts[3] = Math.max(facts[3], y);
            facts[4]++;
            facts[5] += x;
            facts[6] += y;
            for (int around = 0; around < 9; around++) {
                open.push(new int[] {x + around % 3 - 1, y + around / 3 - 1});
            }
        }
        return facts;
    }

    int part(int i, int what) {
        return i < 0 || i >= parts.size() || what < 0 || what > 6 ? -1 : parts.get(i)[what];
    }

    private int shearedRow(int x, int y, int b) {
        int row = y + (int) Math.floor(b * x / 32.0);
        while (row < 0) {
            row += height;
        }
        while (row >= height) {
            row -= height;
        }
        return row;
    }

    int skew() {
        boolean[][] dark = dark();
        TreeMap<Long, List<Integer>> bySum = new TreeMap<>();
        for (int b = -8; b <= 8; b++) {
            long[] rows = new long[height];
            for (int y = 0; y < height; y++) {
                for (int x = 0; x < width; x++) {
                    rows[shearedRow(x, y, b)] += dark[y][x] ? 1 : 0;
                }
            }
            long sum = 0;
            for (long row : rows) {
                sum += row * row;
            }
            bySum.computeIfAbsent(sum, s -> new ArrayList<>()).add(b);
        }
        int best = 99;
        for (int b : bySum.lastEntry().getValue()) {
            if (Math.abs(b) < Math.abs(best)) {
                best = b;
            }
        }
        return best;
    }

    int turn(int b) {
        if (b < -100 || b > 100) {
            return -1;
        }
        int[][] next = new int[height][width];
        for (int y = 0; y < height; y++) {
            for (int x = 0; x < width; x++) {
                next[shearedRow(x, y, b)][x] = greys[y][x];
            }
        }
        return become(next);
    }

    int pack() {
        packed = new ArrayList<>();
        for (int grey : row()) {
            int last = packed.size() - 2;
            if (last >= 0 && packed.get(last + 1) == grey && packed.get(last) < 255) {
                packed.set(last, packed.get(last) + 1);
            } else {
                packed.add(1);
                packed.add(grey);
            }
        }
        return packed.size();
    }

    byte octet(int i) {
        if (i < 0 || i >= packed.size()) {
            throw new ArrayIndexOutOfBoundsException();
        }
        return packed.get(i).byteValue();
    }

    void add(byte b) {
        if (collected.size() < 5000) {
            collected.add(Byte.toUnsignedInt(b));
        }
    }

    int unpack() {
        List<Integer> bytes = collected;
        collected = new ArrayList<>();
        int all = width * height;
        List<Integer> read = new ArrayList<>();
        int place = 0;
        while (read.size() < all) {
            if (place == bytes.size()) {
                return -1 - bytes.size();
            }
            int count = bytes.get(place);
            if (count == 0 || read.size() + count > all) {
                return -1 - place;
            }
            if (place + 1 == bytes.size()) {
                return -1 - bytes.size();
            }
            for (int k = 0; k < count; k++) {
                read.add(bytes.get(place + 1));
            }
            place += 2;
        }
        if (place < bytes.size()) {
            return -1 - place;
        }
        for (int i = 0; i < all; i++) {
            greys[i / width][i % width] = read.get(i);
        }
        return 1;
    }

    int side(int other) {
        if (other < 0 || other > 3) {
            return -1;
        }
        int[][] next = brightGreys();
        for (int y = 0; y < height; y++) {
            for (int x = 0; x < width; x++) {
                if (other == 0) {
                    next[y][width - 1 - x] = greys[y][x];
                } else if (other == 1) {
                    next[height - 1 - y][x] = greys[y][x];
                } else if (other == 2) {
                    next[y][x] = 255 - greys[y][x];
                } else if (x < width / 2 && y < height / 2) {
                    next[y][x] = (greys[2 * y][2 * x] + greys[2 * y][2 * x + 1]
                        + greys[2 * y + 1][2 * x] + greys[2 * y + 1][2 * x + 1]) / 4;
                }
            }
        }
        return become(next);
    }
}
