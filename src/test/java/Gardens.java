import java.util.ArrayList;
import java.util.List;
import java.util.function.ToLongFunction;

/** Gardens to begin with, and whether a refused call has changed one. */
final class Gardens {
    static final int MIN = Integer.MIN_VALUE;
    static final int MAX = Integer.MAX_VALUE;
    /** COLUMN and LEVEL of what is no CELL, some of which would have the number of one. */
    static final int[][] NO_CELLS = {{-1, 0}, {8, 0}, {0, -1}, {0, 6}, {1, -6}, {-1, 12}, {-1, 5}, {8, -1}, {2, 6},
        {3, -1}, {MIN, 0}, {MAX, 0}, {0, MIN}, {0, MAX}, {MIN, MIN}, {MAX, MAX}};
    static final int[] NO_COLUMNS = {-1, 8, 9, MIN, MAX};
    static final int[] NO_PERSONS = {-1, 8, 9, MIN, MAX};
    static final int[] NO_KINDS = {-1, 6, 7, MIN, MAX};
    /** How many facts are asked of one object, so that it stays below its 512 calls. */
    private static final int AT_ONCE = 400;
    private static final List<ToLongFunction<CliffGarden>> FACTS = facts();
    private static final long[] FACTS_OF_RICH = factsOfRich();

    private Gardens() {
    }

    static long bit(int column, int level) {
        return 1L << 6 * column + level;
    }

    /** Feeds a TEXT, filled up to twenties with signs that may stand nowhere, and lays it down as THE LAW. */
    static int lay(CliffGarden g, String text) {
        feedText(g, text);
        return g.law(text.length());
    }

    static int feedText(CliffGarden g, String text) {
        int bytes = 0;
        for (int i = 0; i < text.length(); i += 20) {
            int[] five = new int[5];
            for (int j = 0; j < 20; j++) {
                five[j / 4] = five[j / 4] << 8 | (i + j < text.length() ? text.charAt(i + j) : 'z');
            }
            bytes = g.feed(five[0], five[1], five[2], five[3], five[4]);
        }
        return bytes;
    }

    /** CELLS without SOIL from the brow on; a CELL's FARMER is its LEVEL. */
    static CliffGarden column(int column, int deep, int knot) {
        CliffGarden g = new CliffGarden();
        hangColumn(g, column, deep, knot);
        return g;
    }

    static void hangColumn(CliffGarden g, int column, int deep, int knot) {
        for (int l = 0; l < deep; l++) {
            g.hang(column, l, 0, knot, l, 0);
        }
    }

    static CliffGarden withLaw(String text) {
        CliffGarden g = new CliffGarden();
        Book.due("law " + text, lay(g, text) > 0, true);
        return g;
    }

    /** A garden in which everything has happened: COLUMN 2 hangs whole, 3 by half, 0 at the brow; two FALLS. */
    static CliffGarden rich() {
        CliffGarden g = new CliffGarden();
        lay(g, "g1+w(1=1);f5(r=1);a1(l=0);c1(l=4&y<20);oj(1=1);qb+r+p+y(b>2)");
        for (int k = 0; k < 6; k++) {
            g.kind(k, k + 1, 20 + k, 3 + k);
        }
        for (int c = 0; c < 8; c++) {
            g.valve(c, 3 + c);
            g.kitchen(c, 7 - c, 50 * c + 10);
            g.rope(c, 20 + c, 2 + c);
        }
        for (int l = 0; l < 6; l++) {
            g.hang(2, l, l, 5000 - 100 * l, l, l % 4);
        }
        for (int l = 0; l < 3; l++) {
            g.hang(3, l, 1, 900, 7 - l, 3);
        }
        g.hang(0, 0, 9, 9000, 6, 2);
        g.plant(2, 0, 1, 10);
        g.plant(2, 1, 2, 30);
        g.plant(2, 2, 1, 15);
        g.plant(2, 3, 3, 40);
        g.plant(3, 1, 5, 2);
        g.pollinate(2, 1);
        g.fall(2, 2);
        g.fall(2, 3);
        g.day();
        feedText(g, "g7(1=1)");
        return g;
    }

    private static List<ToLongFunction<CliffGarden>> facts() {
        List<ToLongFunction<CliffGarden>> all = new ArrayList<>();
        for (int n = 0; n < 48; n++) {
            int c = n / 6;
            int l = n % 6;
            for (int w = 0; w <= 10; w++) {
                int what = w;
                all.add(g -> g.cell(c, l, what));
            }
            for (int w = 0; w <= 2; w++) {
                int what = w;
                all.add(g -> g.byLaw(c, l, what));
            }
        }
        for (int w = 0; w <= 40; w++) {
            int what = w;
            all.add(g -> g.count(what));
        }
        addFactsOfColumns(all);
        addFactsOfFalls(all);
        return all;
    }

    private static void addFactsOfColumns(List<ToLongFunction<CliffGarden>> all) {
        for (int n = 0; n < 8; n++) {
            int c = n;
            all.add(g -> g.food(c));
            for (int w = 0; w < 4; w++) {
                int what = w;
                all.add(g -> g.kitchenIs(c, what));
            }
            all.add(g -> g.mayWork(20 + c, c, 0));
            all.add(g -> g.mayWork(21 + c, c, 0));
            all.add(g -> g.mended(bit(c, 4), -1));
        }
    }

    private static void addFactsOfFalls(List<ToLongFunction<CliffGarden>> all) {
        for (int n = 0; n < 3; n++) {
            int i = n;
            for (int w = 0; w < 7; w++) {
                int what = w;
                all.add(g -> g.fallIs(i, what));
            }
            for (int p = 0; p < 8; p++) {
                int persons = 1 << p | 8;
                all.add(g -> g.claimed(i, persons));
            }
        }
    }

    private static long[] factsOfRich() {
        long[] of = new long[FACTS.size()];
        for (int from = 0; from < FACTS.size(); from += AT_ONCE) {
            CliffGarden g = rich();
            for (int i = from; i < FACTS.size() && i < from + AT_ONCE; i++) {
                of[i] = FACTS.get(i).applyAsLong(g);
            }
        }
        return of;
    }

    /** The call answers so in the rich garden, and nothing has changed then: every fact, and what the tape holds. */
    static void refused(String call, ToLongFunction<CliffGarden> asking, long answer) {
        Book.due(call, asking.applyAsLong(rich()), answer);
        for (int from = 0; from < FACTS.size(); from += AT_ONCE) {
            CliffGarden g = rich();
            asking.applyAsLong(g);
            for (int i = from; i < FACTS.size() && i < from + AT_ONCE; i++) {
                if (FACTS.get(i).applyAsLong(g) != FACTS_OF_RICH[i]) {
                    Book.due(call + " changes fact " + i, FACTS.get(i).applyAsLong(g), FACTS_OF_RICH[i]);
                }
            }
            Book.due(call + ", then the tape's law", g.law(7), 1);
            Book.due(call + ", then its g", g.byLaw(2, 0, 0), 7);
        }
    }

    static long asLong(boolean b) {
        return b ? 1 : 0;
    }
}
