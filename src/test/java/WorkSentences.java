/** Sentences on ROPES and HANDS, and on SWALLOWS. */
final class WorkSentences {
    private WorkSentences() {
    }

    static void all() {
        mayWork();
        rounds();
        leastRow();
        promiseOfWork();
        swallow();
        pollen();
        pollinate();
    }

    private static CliffGarden ropes(int bears) {
        CliffGarden g = new CliffGarden();
        for (int c = 0; c < 8; c++) {
            g.rope(c, bears, 1);
        }
        return g;
    }

    private static void mayWork() {
        Book.terms("WORK: a HAND of a WEIGHT (1 to 99) may be at a CELL of a COLUMN if WEIGHT and five times the LEVEL"
                + " are not above what the ROPE bears.", () -> {
            for (int l = 0; l < 6; l++) {
                for (int weight : new int[] {1, 50, 99}) {
                    CliffGarden g = ropes(0);
                    g.rope(4, weight + 5 * l, 1);
                    Book.due("just", g.mayWork(weight, 4, l), 1);
                    Book.due("another column", g.mayWork(weight, 3, l), 0);
                    g.rope(4, weight + 5 * l - 1, 1);
                    Book.due("one too heavy", g.mayWork(weight, 4, l), 0);
                }
            }
            CliffGarden g = ropes(999);
            Book.due("weight 0", g.mayWork(0, 4, 0), -1);
            Book.due("weight 100", g.mayWork(100, 4, 0), -1);
        });
        Book.promise(24, "Whether a HAND may be at a CELL (1, 0);", () -> {
            CliffGarden g = ropes(50);
            Book.due("may", g.mayWork(25, 0, 5), 1);
            Book.due("may not", g.mayWork(26, 0, 5), 0);
            Book.due("may, as nothing need hang there", g.mayWork(50, 7, 0), 1);
            Gardens.refused("nothing is done", x -> x.mayWork(20, 0, 0), 1);
        });
        Book.promise(24, "NONE: no such ones.", () -> {
            for (int[] no : Gardens.NO_CELLS) {
                Gardens.refused("no cell", g -> g.mayWork(1, no[0], no[1]), -1);
            }
            for (int no : new int[] {0, -1, 100, Gardens.MIN, Gardens.MAX}) {
                Gardens.refused("weight " + no, g -> g.mayWork(no, 0, 0), -1);
            }
        });
    }

    private static void rounds() {
        Book.terms("From the brow at a COLUMN (LEVEL 0) on it goes to told CELLS (8 at most) in any order;", () -> {
            CliffGarden g = ropes(999);
            for (int c = 0; c < 8; c++) {
                Book.due("from level 0 of column " + c, g.work(9, c, Gardens.bit(3, 2), -1),
                    2 * Math.abs(3 - c) + 2 + 1);
            }
            long eight = 63L | Gardens.bit(1, 5) | Gardens.bit(1, 4);
            Book.due("eight", g.work(9, 0, eight, -1), 5 + 2 + 1 + 8);
            Book.due("nine", g.work(9, 0, eight | Gardens.bit(1, 3), -1), -3);
            long line = Gardens.bit(0, 0) | Gardens.bit(3, 0) | Gardens.bit(4, 0);
            int[] row = {18, 24, 0};
            for (int i = 0; i < 3; i++) {
                Book.due("any order, place " + i, g.work(9, 3, line, i), row[i]);
            }
        });
        Book.terms("from one to another one two hours a COLUMN and one a LEVEL, one hour of WORK at each:", () -> {
            CliffGarden g = ropes(999);
            Book.due("where it is", g.work(9, 3, Gardens.bit(3, 0), -1), 1);
            Book.due("a column", g.work(9, 3, Gardens.bit(4, 0), -1), 3);
            Book.due("a level", g.work(9, 3, Gardens.bit(3, 1), -1), 2);
            Book.due("all the way", g.work(9, 0, Gardens.bit(7, 5), -1), 20);
            Book.due("level to level, up, too", g.work(9, 0, Gardens.bit(0, 5) | Gardens.bit(1, 0), -1), 3 + 7 + 1);
            Book.due("an hour at each", g.work(9, 0, 63L, -1), 5 + 6);
        });
    }

    private static void leastRow() {
        Book.terms("the fewest hours till the last one is done; of like ones the least row (a CELL's number: six times"
                + " COLUMN, and LEVEL).", () -> {
            CliffGarden g = ropes(999);
            long both = Gardens.bit(2, 0) | Gardens.bit(4, 0);
            Book.due("left or right alike", g.work(9, 3, both, -1), 2 + 1 + 4 + 1);
            Book.due("the least first", g.work(9, 3, both, 0), 12);
            Book.due("then the other", g.work(9, 3, both, 1), 24);
            Book.due("no way back is counted", g.work(9, 0, Gardens.bit(7, 0), -1), 15);
            long up = Gardens.bit(0, 5) | Gardens.bit(2, 5) | Gardens.bit(3, 1) | Gardens.bit(3, 2);
            g.mended(up, -1);
            Book.due("whatever would be mended first", g.work(9, 0, up, -1), 19);
            Book.due("the lower one", g.work(9, 0, up, 2), 20);
            Book.due("then the upper one", g.work(9, 0, up, 3), 19);
            long square = Gardens.bit(0, 0) | Gardens.bit(0, 2) | Gardens.bit(1, 0) | Gardens.bit(1, 2);
            Book.due("a square", g.work(9, 0, square, -1), 2 + 2 + 2 + 4);
            int[] row = {0, 2, 8, 6};
            for (int i = 0; i < 4; i++) {
                Book.due("the least row at place " + i, g.work(9, 0, square, i), row[i]);
            }
            long flat = Gardens.bit(3, 1) | Gardens.bit(3, 3) | Gardens.bit(4, 2);
            Book.due("each way", g.work(9, 3, flat, -1), 1 + 2 + 3 + 3);
            int[] least = {19, 21, 26};
            for (int i = 0; i < 3; i++) {
                Book.due("19 21 26 and 19 26 21 take as long or longer", g.work(9, 3, flat, i), least[i]);
            }
        });
    }

    private static void promiseOfWork() {
        Book.promise(25, "WORK at CELLS (bits, 1 to 8 of them), what NONE hours, else the CELL at place what"
                + " (its number);", () -> {
            CliffGarden g = ropes(999);
            for (int many = 1; many <= 8; many++) {
                long cells = 0x1041041041041L & (1L << 6 * many) - 1;
                Book.due("hours of " + many, g.work(1, 0, cells, -1), 2 * (many - 1) + many);
                for (int place = 0; place < many; place++) {
                    Book.due("place " + place, g.work(99, 0, cells, place), 6 * place);
                }
            }
            Book.due("the last cell", g.work(1, 0, 1L << 47, 0), 47);
            Gardens.refused("nothing is done", x -> x.work(1, 0, 3L, -1), 3);
        });
        Book.promise(25, "-2: it may not be at some;", () -> {
            CliffGarden g = ropes(30);
            Book.due("just", g.work(5, 0, Gardens.bit(1, 5), -1), 8);
            Book.due("not at the last", g.work(6, 0, Gardens.bit(1, 0) | Gardens.bit(1, 5), -1), -2);
            Book.due("not at the first", g.work(6, 0, Gardens.bit(0, 5) | Gardens.bit(1, 0), 1), -2);
            g.rope(0, 0, 1);
            Book.due("where it begins need not bear", g.work(30, 0, Gardens.bit(1, 0), -1), 3);
            Gardens.refused("nothing is done", x -> x.work(21, 0, 1L, -1), -2);
        });
        Book.promise(25, "-3: no such ones,", () -> {
            for (int no : new int[] {0, -1, 100, Gardens.MIN, Gardens.MAX}) {
                Gardens.refused("weight " + no, g -> g.work(no, 0, 1L, -1), -3);
            }
            for (int no : Gardens.NO_COLUMNS) {
                Gardens.refused("column " + no, g -> g.work(1, no, 1L, -1), -3);
            }
            for (long no : new long[] {0, 511, 1L << 48, 1L | 1L << 48, 1L << 63, -1, Long.MAX_VALUE}) {
                Gardens.refused("cells " + no, g -> g.work(1, 0, no, -1), -3);
            }
        });
        Book.promise(25, "no such place.", () -> {
            for (int no : new int[] {-2, 2, 8, Gardens.MIN, Gardens.MAX}) {
                Gardens.refused("place " + no, g -> g.work(1, 0, 3L, no), -3);
                Gardens.refused("place " + no + " where it may not be", g -> g.work(99, 0, 3L, no), -3);
            }
            Book.due("the eighth", ropes(999).work(1, 0, 255L, 7) >= 0, true);
            Book.due("a ninth", ropes(999).work(1, 0, 255L, 8), -3);
        });
    }

    /** In how many of all ways, each gone by itself. */
    private static long ways(int at, int left, int to, int blooming, boolean dusted) {
        boolean now = dusted || (blooming >> at & 1) != 0;
        if (now && at == to) {
            return power(left);
        }
        if (left == 0) {
            return 0;
        }
        return ways(Math.max(0, at - 1), left - 1, to, blooming, now) + ways(at, left - 1, to, blooming, now)
            + ways(Math.min(7, at + 1), left - 1, to, blooming, now);
    }

    private static long power(int n) {
        return n == 0 ? 1 : 3 * power(n - 1);
    }

    private static long divisor(long a, long b) {
        return b == 0 ? a : divisor(b, a % b);
    }

    private static CliffGarden blooming(int columns, int k) {
        CliffGarden g = new CliffGarden();
        for (int c = 0; c < 8; c++) {
            g.hang(c, 0, 0, 9999, 0, 0);
            g.hang(c, 1, 0, 9999, 0, 0);
            g.plant(c, 0, (k + 1) % 6, 1);
            if ((columns >> c & 1) != 0) {
                g.plant(c, 1, k, 1);
            }
        }
        return g;
    }

    private static void fly(int blooming, int from, int to, int steps) {
        CliffGarden g = blooming(blooming, 5);
        long above = ways(from, steps, to, blooming, false);
        long all = power(steps);
        long common = divisor(all, above);
        Book.due("above the line", g.pollen(from, to, 5, steps, 0), above / common);
        Book.due("below the line", g.pollen(from, to, 5, steps, 1), all / common);
    }

    private static void swallow() {
        Book.terms("A SWALLOW begins at a COLUMN; n times (1 to 12) it goes to the left, stays, or goes to the right,"
                + " in three ways alike (beyond the ends it stays):", () -> {
            for (int steps = 1; steps <= 8; steps++) {
                fly(1, 0, 1, steps);
                fly(128, 7, 6, steps);
                fly(255, 0, 3, steps);
            }
            fly(1, 0, 7, 12);
            fly(128, 7, 0, 12);
            fly(255, 3, 0, 12);
            CliffGarden g = blooming(1, 5);
            Book.due("it stays at the end in two of three", g.pollen(0, 1, 5, 2, 0), 5);
            Book.due("of nine", g.pollen(0, 1, 5, 2, 1), 9);
            Book.due("0 times", g.pollen(0, 1, 5, 0, 0), -1);
            Book.due("13 times", g.pollen(0, 1, 5, 13, 0), -1);
        });
        Book.terms("POLLEN: in how many of all ways it comes to a told COLUMN (where it begins counts), having been"
                + " (then, or before) in a COLUMN where some CELL that HANGS has a CROP"
                + " of a told KIND: a fraction.", () -> {
            fly(1 << 3, 3, 3, 1);
            fly(1 << 3, 2, 3, 1);
            fly(1 << 3, 3, 4, 1);
            fly(1 << 3, 2, 2, 1);
            fly(1 << 3, 2, 2, 2);
            fly(1 << 3, 2, 1, 3);
            fly(0b10010, 2, 5, 7);
            fly(0b10000001, 3, 3, 8);
            fly(0, 3, 3, 5);
            CliffGarden g = blooming(1 << 3, 5);
            Book.due("where it begins counts", g.pollen(3, 3, 5, 1, 0), 1);
            Book.due("in all ways", g.pollen(3, 3, 5, 1, 1), 1);
            Book.due("another kind", g.pollen(3, 3, 4, 1, 0), 0);
            g.knot(3, 1, 0);
            g.go();
            for (int n = 0; n < 48; n++) {
                CliffGarden one = Gardens.column(n / 6, 6, 9);
                one.plant(n / 6, n % 6, 5, 0);
                Book.due("the crop of cell " + n, one.pollen(n / 6, n / 6, 5, 1, 0), 1);
            }
            Book.due("it hangs no more", g.pollen(3, 3, 5, 1, 0), 0);
            Book.due("none of one", g.pollen(3, 3, 5, 1, 1), 1);
        });
        Book.terms("It makes each such CROP of the told COLUMN POLLINATED, if told so.", () -> {
            CliffGarden g = blooming(1 << 3, 5);
            g.pollen(3, 3, 5, 12, 0);
            Book.due("not told so", g.cell(3, 1, 9), 0);
            Book.due("told so", g.pollinate(3, 5), 1);
            Book.due("is", g.cell(3, 1, 9), 1);
            Book.due("another kind is not", g.cell(3, 0, 9), 0);
            Book.due("another column is not", g.pollinate(3, 5) + g.cell(2, 0, 9), 0);
        });
    }

    private static void pollen() {
        Book.promise(26, "POLLEN, what 0 above, 1 below the line, without a common divisor;", () -> {
            CliffGarden g = blooming(255, 5);
            Book.due("1 of 3", g.pollen(3, 4, 5, 1, 0), 1);
            Book.due("1 of 3", g.pollen(3, 4, 5, 1, 1), 3);
            Book.due("all", g.pollen(3, 3, 5, 12, 0), 1);
            Book.due("all", g.pollen(3, 3, 5, 12, 1), 1);
            g = blooming(1, 5);
            Book.due("none: 0", g.pollen(7, 7, 5, 12, 0), 0);
            Book.due("none: of 1", g.pollen(7, 7, 5, 12, 1), 1);
            Book.due("one way there and back", g.pollen(6, 6, 5, 12, 0), 1);
            Book.due("of all", g.pollen(6, 6, 5, 12, 1), 531441);
            for (int from = 0; from < 8; from++) {
                for (int to = 0; to < 8; to++) {
                    fly(0b1001, from, to, 5);
                    fly(0b1000100, from, to, 6);
                }
            }
        });
        Book.promise(26, "-1: no such ones.", () -> {
            for (int no : Gardens.NO_COLUMNS) {
                Gardens.refused("from " + no, g -> g.pollen(no, 2, 1, 3, 0), -1);
                Gardens.refused("to " + no, g -> g.pollen(2, no, 1, 3, 0), -1);
            }
            for (int no : Gardens.NO_KINDS) {
                Gardens.refused("kind " + no, g -> g.pollen(2, 2, no, 3, 0), -1);
            }
            for (int no : new int[] {0, -1, 13, Gardens.MIN, Gardens.MAX}) {
                Gardens.refused("steps " + no, g -> g.pollen(2, 2, 1, no, 0), -1);
            }
            for (int no : new int[] {-1, 2, Gardens.MIN, Gardens.MAX}) {
                Gardens.refused("what " + no, g -> g.pollen(2, 2, 1, 3, no), -1);
            }
            Gardens.refused("nothing is done", g -> g.pollen(2, 2, 1, 3, 0), 1);
        });
    }

    private static void pollinate() {
        Book.promise(27, "CROPS of KIND k in a COLUMN are POLLINATED: how many were not;", () -> {
            CliffGarden g = Gardens.column(7, 6, 9999);
            Gardens.hangColumn(g, 6, 6, 9999);
            for (int l = 0; l < 6; l++) {
                g.plant(7, l, l == 3 ? 1 : 0, 1);
                g.plant(6, l, 0, 1);
            }
            Book.due("five", g.pollinate(7, 0), 5);
            Book.due("no more", g.pollinate(7, 0), 0);
            for (int l = 0; l < 6; l++) {
                Book.due("level " + l, g.cell(7, l, 9), l == 3 ? 0 : 1);
                Book.due("beside", g.cell(6, l, 9), 0);
            }
            g.fall(7, 0);
            g.plant(7, 0, 0, 1);
            Book.due("one was not", g.pollinate(7, 0), 1);
            Book.due("no such crop", g.pollinate(7, 5), 0);
            Book.due("six in the column to the left", g.pollinate(6, 0), 6);
            g.fall(7, 0);
            g.plant(7, 0, 0, 1);
            g.fall(6, 5);
            g.plant(6, 5, 0, 1);
            Book.due("the lowest of that one is not", g.pollinate(7, 0), 1);
            Book.due("was not", g.cell(6, 5, 9), 0);
            g.fall(7, 0);
            g.plant(7, 0, 0, 1);
            Book.due("the first of the next one is not", g.pollinate(6, 0), 1);
            Book.due("was not", g.cell(7, 0, 9), 0);
            Gardens.refused("nothing hangs there", x -> x.pollinate(5, 0), 0);
        });
        Book.promise(27, "NONE: no such ones.", () -> {
            for (int no : Gardens.NO_COLUMNS) {
                Gardens.refused("column " + no, g -> g.pollinate(no, 1), -1);
            }
            for (int no : Gardens.NO_KINDS) {
                Gardens.refused("kind " + no, g -> g.pollinate(2, no), -1);
            }
        });
    }
}
