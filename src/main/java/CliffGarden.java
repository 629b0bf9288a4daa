import java.util.Arrays;

/**
 * The upside garden: fields that hang under a cliff in nets. A CELL's number is six times its COLUMN, and its LEVEL.
 * Every row is made with the object and used again, so that no call makes anything.
 */
public final class CliffGarden {
    public static final int NONE = -1;

    private static final int COLUMNS = 8;
    private static final int LEVELS = 6;
    private static final int CELLS = COLUMNS * LEVELS;
    private static final int KINDS = 6;
    private static final int PERSONS = 8;
    private static final int HEAVIEST = 200;
    private static final int MOST_NEED = 20;
    private static final int STRONGEST = 9999;
    private static final int NO_SUCH_FACT = -1000;

    private final Nets nets = new Nets();
    private final Brow brow = new Brow();
    private final Falls falls = new Falls();
    private final Court court = new Court(nets, brow, falls);
    private final Water streams = new Water(nets, court);
    private final Tape tape = new Tape();
    private final Reader reader = new Reader();
    private final Rounds rounds = new Rounds();
    private final Planting planting = new Planting(nets, brow);
    private final Swallow swallow = new Swallow();
    private Statute draft = new Statute();
    private int drawn = 1;

    public CliffGarden() {
    }

    public boolean hang(int column, int level, int soil, int knot, int farmer, int way) {
        if (!isCell(column, level) || !within(soil, 9) || !within(knot, STRONGEST)
                || !within(farmer, PERSONS - 1) || !within(way, 3)) {
            return false;
        }
        int at = column * LEVELS + level;
        if (nets.hangs(at) || level > 0 && !nets.hangs(at - 1)) {
            return false;
        }
        nets.hanging |= 1L << at;
        nets.soil[at] = soil;
        nets.knot[at] = knot;
        nets.farmer[at] = farmer;
        nets.way[at] = way;
        nets.caught[at] = 0;
        nets.kept[at] = 0;
        nets.clearCrop(at);
        return true;
    }

    public boolean knot(int column, int level, int n) {
        int at = hungCell(column, level);
        if (at < 0 || !within(n, STRONGEST)) {
            return false;
        }
        nets.knot[at] = n;
        return true;
    }

    public boolean kind(int k, int need, int ripe, int worth) {
        if (!within(k, KINDS - 1) || !within(need, MOST_NEED) || ripe < 1 || ripe > HEAVIEST || !within(worth, 99)) {
            return false;
        }
        nets.need[k] = need;
        nets.ripe[k] = ripe;
        nets.worth[k] = worth;
        return true;
    }

    public boolean plant(int column, int level, int k, int weight) {
        int at = hungCell(column, level);
        if (at < 0 || !within(k, KINDS - 1) || !within(weight, HEAVIEST) || nets.hasCrop(at)) {
            return false;
        }
        nets.setCrop(at, k, weight);
        return true;
    }

    public boolean valve(int column, int drops) {
        if (!isColumn(column) || !within(drops, 99)) {
            return false;
        }
        brow.valve[column] = drops;
        return true;
    }

    public boolean kitchen(int column, int owner, int roof) {
        if (!isColumn(column) || !isPerson(owner) || !within(roof, STRONGEST)) {
            return false;
        }
        brow.owner[column] = owner;
        brow.roof[column] = roof;
        return true;
    }

    public boolean rope(int column, int bears, int worth) {
        if (!isColumn(column) || !within(bears, 999) || !within(worth, 99)) {
            return false;
        }
        brow.bears[column] = bears;
        brow.hourCosts[column] = worth;
        return true;
    }

    public boolean seed(int x) {
        if (!within(x, 65535)) {
            return false;
        }
        drawn = x;
        return true;
    }

    public int feed(int a, int b, int c, int d, int e) {
        if (tape.length + 20 > Tape.MOST) {
            return NONE;
        }
        tape.append(a);
        tape.append(b);
        tape.append(c);
        tape.append(d);
        tape.append(e);
        return tape.length;
    }

    public int law(int n) {
        if (n < 1 || n > Statute.LONGEST || n > tape.length) {
            return NONE;
        }
        int answer = reader.read(tape, n, draft);
        tape.length = 0;
        if (answer >= 0) {
            Statute before = court.law;
            court.law = draft;
            draft = before;
        }
        return answer;
    }

    public int cell(int column, int level, int what) {
        if (!isCell(column, level)) {
            return NO_SUCH_FACT;
        }
        int at = column * LEVELS + level;
        if (what == 0) {
            return nets.hangs(at) ? 1 : 0;
        }
        return nets.hangs(at) ? nets.factOf(at, what) : NO_SUCH_FACT;
    }

    public int byLaw(int column, int level, int what) {
        if (!isCell(column, level) || !within(what, 2)) {
            return NONE;
        }
        int at = column * LEVELS + level;
        if (!nets.hangs(at)) {
            return -2;
        }
        if (what == 2) {
            return court.ageing(at);
        }
        if (!nets.hasCrop(at)) {
            return NONE;
        }
        return what == 0 ? court.growth(at, nets.kept[at]) : court.oddsOfFall(at);
    }

    public int water() {
        return letWaterFlow();
    }

    public int fall(int column, int level) {
        int at = hungCell(column, level);
        if (at < 0 || !nets.hasCrop(at)) {
            return NONE;
        }
        return dropCrop(at, true);
    }

    public int go() {
        return letKnotsGo();
    }

    public int day() {
        int before = falls.happened;
        letWaterFlow();
        letCropsGrow();
        letCropsFall();
        letKnotsAge();
        letKnotsGo();
        brow.today++;
        return falls.happened - before;
    }

    public long torn(int column, int level) {
        int at = hungCell(column, level);
        return at < 0 ? -1L : nets.wouldGo(at);
    }

    public int fallIs(int i, int what) {
        return falls.isWritten(i) ? falls.factOf(i, what) : NO_SUCH_FACT;
    }

    public int claimed(int i, int persons) {
        if (!falls.isWritten(i) || persons < 1 || persons >= 1 << PERSONS) {
            return NONE;
        }
        return claimantOf(i, persons);
    }

    public int right(int i, int persons) {
        if (!falls.isWritten(i) || persons < 1 || persons >= 1 << PERSONS) {
            return NONE;
        }
        int loser = falls.whose[i];
        int winner = claimantOf(i, persons);
        if (!isPerson(loser) || !isPerson(winner) || loser == winner) {
            return NONE;
        }
        brow.food[loser] -= falls.food[i];
        brow.food[winner] += falls.food[i];
        falls.whose[i] = winner;
        return falls.food[i];
    }

    public int food(int person) {
        return isPerson(person) ? brow.food[person] : NONE;
    }

    public int kitchenIs(int column, int what) {
        return isColumn(column) ? brow.factOf(column, what) : NONE;
    }

    public int mayWork(int weight, int column, int level) {
        if (weight < 1 || weight > 99 || !isCell(column, level)) {
            return NONE;
        }
        return brow.carries(weight, column, level) ? 1 : 0;
    }

    public int work(int weight, int column, long cells, int what) {
        int told = toldCells(cells, Rounds.MOST);
        if (weight < 1 || weight > 99 || !isColumn(column) || told < 1 || what < NONE || what >= told) {
            return -3;
        }
        for (int c = 0; c < CELLS; c++) {
            if (isTold(cells, c) && !brow.carries(weight, c / LEVELS, c % LEVELS)) {
                return -2;
            }
        }
        rounds.tell(cells);
        rounds.asWork(column);
        rounds.solve();
        return what == NONE ? rounds.least() : rounds.cellAt(what);
    }

    public long pollen(int from, int to, int k, int steps, int what) {
        if (!isColumn(from) || !isColumn(to) || !within(k, KINDS - 1) || steps < 1 || steps > 12 || !within(what, 1)) {
            return -1L;
        }
        swallow.fly(from, to, nets.columnsOf(k), steps);
        return what == 0 ? swallow.above : swallow.below;
    }

    public int pollinate(int column, int k) {
        if (!isColumn(column) || !within(k, KINDS - 1)) {
            return NONE;
        }
        int anew = 0;
        for (int level = 0; level < LEVELS; level++) {
            int at = column * LEVELS + level;
            if (nets.hasCrop(at) && nets.kind[at] == k && !nets.pollinated[at]) {
                nets.pollinated[at] = true;
                anew++;
            }
        }
        return anew;
    }

    public int planted(long cells, int what) {
        int told = toldCells(cells, Planting.MOST);
        if (told < 1 || what < NONE || what >= told && what != 10) {
            return -3;
        }
        for (int c = 0; c < CELLS; c++) {
            if (isTold(cells, c) && (!nets.hangs(c) || nets.hasCrop(c))) {
                return -3;
            }
        }
        if (!planting.choose(cells)) {
            return -2;
        }
        if (what == 10) {
            planting.carryOut();
        }
        return what == NONE || what == 10 ? planting.mostWorth : planting.kindAt(what);
    }

    public int drought(int drops, int columns, int what) {
        if (!within(drops, 36) || columns < 1 || columns >= 1 << COLUMNS) {
            return -2;
        }
        int told = Integer.bitCount(columns);
        if (told > Water.MOST_TOLD || what < NONE || what >= told) {
            return -2;
        }
        streams.share(drops, columns);
        return what == NONE ? streams.mostGrowth : streams.dropsAt(what);
    }

    public int mended(long cells, int what) {
        int told = toldCells(cells, Rounds.MOST);
        if (told < 1 || (cells & nets.hanging) != 0 || what < NONE || what >= told) {
            return -3;
        }
        rounds.tell(cells);
        rounds.asMending(brow.hourCosts);
        rounds.solve();
        return what == NONE ? rounds.least() : rounds.cellAt(what);
    }

    public int hail(int kinds) {
        if (!within(kinds, 63)) {
            return NONE;
        }
        int hit = 0;
        for (int column = 0; column < COLUMNS; column++) {
            if (nets.highestFall(column, kinds) > brow.roof[column]) {
                hit++;
            }
        }
        return hit;
    }

    public int check(int column, int n) {
        if (!isColumn(column) || n < 0 || n > tape.length / 4) {
            return -2;
        }
        tape.length = 0;
        for (int i = 0; i < n && i < LEVELS; i++) {
            int at = column * LEVELS + i;
            int due = nets.hasCrop(at) ? nets.weight[at] : NONE;
            if (tape.numberAt(i) != due) {
                return i;
            }
        }
        return n == LEVELS ? NONE : Math.min(n, LEVELS);
    }

    public int count(int what) {
        switch (what) {
            case 0:
                return Long.bitCount(nets.hanging);
            case 1:
                return brow.today;
            case 2:
                return falls.written;
            case 3:
                return court.law.clauses;
            case 4:
                return tape.length;
            case 5:
                return drawn;
            case 6:
                return nets.crops();
            default:
                return countOfRow(what);
        }
    }

    private int countOfRow(int what) {
        if (what >= 10 && what < 10 + COLUMNS) {
            return brow.valve[what - 10];
        }
        if (what < 20 || what >= 20 + 3 * KINDS) {
            return NONE;
        }
        int k = (what - 20) / 3;
        int of = (what - 20) % 3;
        if (of == 0) {
            return nets.need[k];
        }
        return of == 1 ? nets.ripe[k] : nets.worth[k];
    }

    private int letWaterFlow() {
        streams.pour(brow.valve, nets.kept);
        int came = 0;
        for (int column = 0; column < COLUMNS; column++) {
            brow.drops[column] += streams.landed[column];
            came += streams.landed[column];
        }
        return came;
    }

    private void letCropsGrow() {
        for (int c = 0; c < CELLS; c++) {
            if (nets.hasCrop(c)) {
                nets.weight[c] = Math.min(HEAVIEST, nets.weight[c] + court.growth(c, nets.kept[c]));
            }
        }
    }

    private void letCropsFall() {
        for (int c = 0; c < CELLS; c++) {
            if (nets.hasCrop(c)) {
                drawn = 25173 * drawn + 13849 & 65535;
                if (drawn % 1000 < court.oddsOfFall(c)) {
                    dropCrop(c, true);
                }
            }
        }
    }

    private void letKnotsAge() {
        for (int c = 0; c < CELLS; c++) {
            if (nets.hangs(c)) {
                nets.knot[c] = Math.max(0, nets.knot[c] - court.ageing(c));
            }
        }
    }

    private int letKnotsGo() {
        int went = 0;
        for (int round = 0; round < CELLS; round++) {
            int first = nets.firstOverloaded();
            if (first == NONE) {
                return went;
            }
            went += tearDown(first);
        }
        return went;
    }

    private int tearDown(int top) {
        int load = nets.loadOf(top);
        int went = 0;
        for (int c = Nets.endOfColumn(top) - 1; c >= top; c--) {
            if (nets.hangs(c)) {
                if (nets.hasCrop(c)) {
                    dropCrop(c, false);
                }
                nets.soil[c] = 0;
                nets.caught[c] = 0;
                went++;
            }
        }
        nets.unhang(top, load);
        return went;
    }

    /** Answers the LEVEL where the CROP lies then, LEVELS being the KITCHEN. */
    private int dropCrop(int from, boolean mayBeCaught) {
        int row = falls.open(nets, from, brow.today);
        nets.clearCrop(from);
        int lies = mayBeCaught ? court.catchingLevel(row) : LEVELS;
        falls.lies[row] = lies;
        if (lies < LEVELS) {
            nets.caught[from - from % LEVELS + lies] += falls.weight[row];
            falls.whose[row] = NONE;
            falls.food[row] = 0;
        } else {
            falls.whose[row] = court.ownerOf(row);
            landInKitchen(row, from);
        }
        falls.close();
        return lies;
    }

    private void landInKitchen(int row, int from) {
        int person = falls.whose[row];
        int column = from / LEVELS;
        falls.food[row] = falls.weight[row] * nets.worth[falls.kind[row]];
        brow.food[person] += falls.food[row];
        if (falls.weight[row] * (LEVELS - from % LEVELS) > brow.roof[column]) {
            brow.holes[column]++;
        }
    }

    private int claimantOf(int row, int persons) {
        int best = 0;
        int who = -2;
        for (int person = 0; person < PERSONS; person++) {
            if ((persons >> person & 1) != 0) {
                int points = court.pointsOf(row, person);
                if (points > best) {
                    best = points;
                    who = person;
                }
            }
        }
        return who;
    }

    /** The number of a CELL that HANGS, else NONE. */
    private int hungCell(int column, int level) {
        if (!isCell(column, level) || !nets.hangs(column * LEVELS + level)) {
            return NONE;
        }
        return column * LEVELS + level;
    }

    private static boolean within(int n, int most) {
        return n >= 0 && n <= most;
    }

    private static boolean isColumn(int column) {
        return within(column, COLUMNS - 1);
    }

    private static boolean isPerson(int person) {
        return within(person, PERSONS - 1);
    }

    private static boolean isCell(int column, int level) {
        return isColumn(column) && within(level, LEVELS - 1);
    }

    private static boolean isTold(long cells, int at) {
        return (cells >>> at & 1L) != 0;
    }

    /** How many CELLS the bits tell; 0 if some are no CELLS, or they are too many. */
    private static int toldCells(long cells, int most) {
        int told = Long.bitCount(cells);
        return cells >>> CELLS != 0 || told > most ? 0 : told;
    }

    /** The CELLS and the KINDS that grow in them. */
    private static final class Nets {
        private long hanging;
        private final int[] knot = new int[CELLS];
        private final int[] soil = new int[CELLS];
        private final int[] farmer = new int[CELLS];
        private final int[] way = new int[CELLS];
        private final int[] kind = new int[CELLS];
        private final int[] weight = new int[CELLS];
        private final int[] caught = new int[CELLS];
        private final int[] kept = new int[CELLS];
        private final boolean[] pollinated = new boolean[CELLS];
        private final int[] need = new int[KINDS];
        private final int[] ripe = new int[KINDS];
        private final int[] worth = new int[KINDS];
        private final int[] knotsBefore = new int[CELLS];

        private Nets() {
            Arrays.fill(kind, NONE);
            Arrays.fill(need, 1);
            Arrays.fill(ripe, 50);
            Arrays.fill(worth, 1);
        }

        private static int endOfColumn(int at) {
            return at - at % LEVELS + LEVELS;
        }

        private boolean hangs(int at) {
            return at >= 0 && at < CELLS && (hanging >>> at & 1L) != 0;
        }

        private boolean hasCrop(int at) {
            return hangs(at) && within(kind[at], KINDS - 1);
        }

        private boolean isRipe(int at) {
            return hasCrop(at) && weight[at] >= ripe[kind[at]];
        }

        private int needOf(int at) {
            return hasCrop(at) ? need[kind[at]] : 0;
        }

        private void setCrop(int at, int k, int heavy) {
            kind[at] = k;
            weight[at] = heavy;
            pollinated[at] = false;
        }

        private void clearCrop(int at) {
            setCrop(at, NONE, 0);
        }

        private int crops() {
            int all = 0;
            for (int c = 0; c < CELLS; c++) {
                if (hasCrop(c)) {
                    all++;
                }
            }
            return all;
        }

        private int factOf(int at, int what) {
            switch (what) {
                case 1:
                    return knot[at];
                case 2:
                    return soil[at];
                case 3:
                    return farmer[at];
                case 4:
                    return way[at];
                case 5:
                    return kind[at];
                case 6:
                    return weight[at];
                case 7:
                    return caught[at];
                case 8:
                    return kept[at];
                case 9:
                    return pollinated[at] ? 1 : 0;
                case 10:
                    return loadOf(at);
                default:
                    return NO_SUCH_FACT;
            }
        }

        private int loadOf(int top) {
            int load = 0;
            int end = endOfColumn(top);
            for (int c = top; c < end && hangs(c); c++) {
                load += 10 * soil[c] + weight[c] + caught[c] + kept[c];
            }
            return load;
        }

        /** The LOAD, were every CROP as heavy as RIPE (or as it is, if heavier). */
        private int ripeLoadOf(int top) {
            int load = loadOf(top);
            int end = endOfColumn(top);
            for (int c = top; c < end && hangs(c); c++) {
                if (hasCrop(c)) {
                    load += Math.max(0, ripe[kind[c]] - weight[c]);
                }
            }
            return load;
        }

        private int firstOverloaded() {
            for (int c = 0; c < CELLS; c++) {
                if (hangs(c) && loadOf(c) > knot[c]) {
                    return c;
                }
            }
            return NONE;
        }

        private void unhang(int top, int load) {
            int end = endOfColumn(top);
            for (int c = top; c < end; c++) {
                hanging &= ~(1L << c);
            }
            loosen(top - LEVELS, load / 10);
            loosen(top + LEVELS, load / 10);
        }

        private void loosen(int at, int by) {
            if (hangs(at)) {
                knot[at] = Math.max(0, knot[at] - by);
            }
        }

        /** Lets them go and hangs them up again: what HANGS and the KNOTS are all that unhang touches. */
        private long wouldGo(int top) {
            long before = hanging;
            System.arraycopy(knot, 0, knotsBefore, 0, CELLS);
            int next = top;
            for (int round = 0; round <= CELLS && next != NONE; round++) {
                unhang(next, loadOf(next));
                next = firstOverloaded();
            }
            long gone = before & ~hanging;
            hanging = before;
            System.arraycopy(knotsBefore, 0, knot, 0, CELLS);
            return gone;
        }

        /** COLUMNS with a CROP of a KIND, as bits. */
        private int columnsOf(int k) {
            int columns = 0;
            for (int c = 0; c < CELLS; c++) {
                if (hasCrop(c) && kind[c] == k) {
                    columns |= 1 << c / LEVELS;
                }
            }
            return columns;
        }

        /** The most LEVELS that a CROP of some KINDS (as bits) would fall in a COLUMN; NONE if it has no such CROP. */
        private int highestFall(int column, int kinds) {
            for (int level = 0; level < LEVELS; level++) {
                int at = column * LEVELS + level;
                if (hasCrop(at) && (kinds >> kind[at] & 1) != 0) {
                    return LEVELS - level;
                }
            }
            return NONE;
        }
    }

    /** VALVES and ROPES at the brow, KITCHENS below, PERSONS and THE DAY. */
    private static final class Brow {
        private final int[] valve = new int[COLUMNS];
        private final int[] owner = new int[COLUMNS];
        private final int[] roof = new int[COLUMNS];
        private final int[] drops = new int[COLUMNS];
        private final int[] holes = new int[COLUMNS];
        private final int[] bears = new int[COLUMNS];
        private final int[] hourCosts = new int[COLUMNS];
        private final int[] food = new int[PERSONS];
        private int today;

        private Brow() {
            Arrays.fill(roof, STRONGEST);
            Arrays.fill(hourCosts, 1);
        }

        private boolean carries(int heavy, int column, int level) {
            return heavy + 5 * level <= bears[column];
        }

        private int factOf(int column, int what) {
            switch (what) {
                case 0:
                    return owner[column];
                case 1:
                    return roof[column];
                case 2:
                    return drops[column];
                case 3:
                    return holes[column];
                default:
                    return NONE;
            }
        }
    }

    /** FALLS, a row each; the row behind the last one serves those that are not written. */
    private static final class Falls {
        private static final int MOST = 60;

        private final int[] from = new int[MOST + 1];
        private final int[] kind = new int[MOST + 1];
        private final int[] weight = new int[MOST + 1];
        private final boolean[] ripe = new boolean[MOST + 1];
        private final boolean[] pollinated = new boolean[MOST + 1];
        private final int[] lies = new int[MOST + 1];
        private final int[] whose = new int[MOST + 1];
        private final int[] food = new int[MOST + 1];
        private final int[] day = new int[MOST + 1];
        private int written;
        private int happened;

        private int open(Nets nets, int at, int today) {
            from[written] = at;
            kind[written] = nets.kind[at];
            weight[written] = nets.weight[at];
            ripe[written] = nets.isRipe(at);
            pollinated[written] = nets.pollinated[at];
            day[written] = today;
            return written;
        }

        private void close() {
            happened++;
            if (written < MOST) {
                written++;
            }
        }

        private boolean isWritten(int row) {
            return row >= 0 && row < written;
        }

        private int factOf(int row, int what) {
            switch (what) {
                case 0:
                    return from[row] / LEVELS;
                case 1:
                    return from[row] % LEVELS;
                case 2:
                    return kind[row];
                case 3:
                    return weight[row];
                case 4:
                    return lies[row];
                case 5:
                    return whose[row];
                case 6:
                    return day[row];
                default:
                    return NO_SUCH_FACT;
            }
        }
    }

    /** Asks THE LAW: fills the row of what its letters stand for, in the order of Reader.LETTERS. */
    private static final class Court {
        private static final int K = 0;
        private static final int Y = 1;
        private static final int X = 2;
        private static final int L = 3;
        private static final int S = 4;
        private static final int N = 5;
        private static final int J = 6;
        private static final int W = 7;
        private static final int R = 8;
        private static final int P = 9;
        private static final int D = 10;
        private static final int T = 11;
        private static final int M = 12;
        private static final int B = 13;

        private final Nets nets;
        private final Brow brow;
        private final Falls falls;
        private final int[] seen = new int[Statute.LETTERS];
        private Statute law = new Statute();

        private Court(Nets nets, Brow brow, Falls falls) {
            this.nets = nets;
            this.brow = brow;
            this.falls = falls;
        }

        private int growth(int at, int drops) {
            seeCellAndCrop(at);
            seen[W] = drops;
            return law.answer('g', 50, seen);
        }

        private int oddsOfFall(int at) {
            seeCellAndCrop(at);
            return law.answer('f', 1000, seen);
        }

        private int ageing(int at) {
            seeCellAndCrop(at);
            return law.answer('a', 999, seen);
        }

        /** The LEVEL of the first CELL below that catches it; LEVELS if none does. */
        private int catchingLevel(int row) {
            int from = falls.from[row];
            int end = Nets.endOfColumn(from);
            for (int c = from + 1; c < end; c++) {
                if (nets.hangs(c)) {
                    seeCell(c);
                    seeFallen(row);
                    seen[M] = c - from;
                    if (law.answer('c', 1, seen) > 0) {
                        return c % LEVELS;
                    }
                }
            }
            return LEVELS;
        }

        private int ownerOf(int row) {
            seeFallFromItsCell(row);
            return law.answer('o', PERSONS - 1, seen);
        }

        private int pointsOf(int row, int person) {
            seeFallFromItsCell(row);
            seen[B] = person;
            return law.answer('q', 1000, seen);
        }

        private void seeCell(int at) {
            Arrays.fill(seen, 0);
            seen[X] = at / LEVELS;
            seen[L] = at % LEVELS;
            seen[S] = nets.soil[at];
            seen[N] = nets.knot[at];
            seen[J] = nets.farmer[at];
            seen[W] = nets.kept[at];
            seen[D] = brow.today;
            seen[T] = brow.owner[at / LEVELS];
        }

        private void seeCellAndCrop(int at) {
            seeCell(at);
            if (nets.hasCrop(at)) {
                seen[K] = nets.kind[at];
                seen[Y] = nets.weight[at];
                seen[R] = nets.isRipe(at) ? 1 : 0;
                seen[P] = nets.pollinated[at] ? 1 : 0;
            }
        }

        private void seeFallen(int row) {
            seen[K] = falls.kind[row];
            seen[Y] = falls.weight[row];
            seen[R] = falls.ripe[row] ? 1 : 0;
            seen[P] = falls.pollinated[row] ? 1 : 0;
        }

        private void seeFallFromItsCell(int row) {
            seeCell(falls.from[row]);
            seeFallen(row);
            seen[M] = falls.lies[row] - falls.from[row] % LEVELS;
        }
    }

    /** What flows from VALVES, and how to share drops among them in a DROUGHT. */
    private static final class Water {
        private static final int MOST_TOLD = 4;
        private static final int MOST_EACH = 9;

        private final Nets nets;
        private final Court court;
        private final int[] landed = new int[COLUMNS];
        private final int[] coming = new int[COLUMNS];
        private final int[] told = new int[MOST_TOLD];
        private final int[] best = new int[MOST_TOLD];
        private final int[] trial = new int[COLUMNS];
        private final int[] trialKept = new int[CELLS];
        private final int[] growthBy = new int[CELLS * (MOST_NEED + 1)];
        private int columns;
        private int mostGrowth;

        private Water(Nets nets, Court court) {
            this.nets = nets;
            this.court = court;
        }

        /** Behind it landed has what came below the lowest LEVEL, by COLUMNS. */
        private void pour(int[] valves, int[] kept) {
            System.arraycopy(valves, 0, landed, 0, COLUMNS);
            for (int level = 0; level < LEVELS; level++) {
                System.arraycopy(landed, 0, coming, 0, COLUMNS);
                Arrays.fill(landed, 0);
                for (int column = 0; column < COLUMNS; column++) {
                    int at = column * LEVELS + level;
                    int drops = coming[column];
                    kept[at] = drops == 0 ? 0 : Math.min(drops, nets.needOf(at));
                    if (drops > kept[at]) {
                        passOn(drops - kept[at], column, nets.hangs(at) ? nets.way[at] : 0);
                    }
                }
            }
        }

        private void passOn(int drops, int column, int way) {
            int left = column > 0 ? column - 1 : column;
            int right = column < COLUMNS - 1 ? column + 1 : column;
            switch (way) {
                case 1:
                    landed[left] += drops;
                    break;
                case 2:
                    landed[right] += drops;
                    break;
                case 3:
                    landed[left] += drops - drops / 2;
                    landed[right] += drops / 2;
                    break;
                default:
                    landed[column] += drops;
                    break;
            }
        }

        private void share(int drops, int toldColumns) {
            columns = 0;
            for (int column = 0; column < COLUMNS; column++) {
                trial[column] = 0;
                if ((toldColumns >> column & 1) != 0 && columns < MOST_TOLD) {
                    told[columns] = column;
                    columns++;
                }
            }
            reckonGrowth(drops);
            mostGrowth = NONE;
            tryValve(0, drops);
        }

        /** g of a CELL hangs, in a DROUGHT, on what it KEEPS alone, so it is asked once for each such number. */
        private void reckonGrowth(int drops) {
            for (int c = 0; c < CELLS; c++) {
                int most = Math.min(drops, nets.needOf(c));
                for (int kept = 0; kept <= most && kept <= MOST_NEED; kept++) {
                    growthBy[c * (MOST_NEED + 1) + kept] = nets.hasCrop(c) ? court.growth(c, kept) : 0;
                }
            }
        }

        /** Rows come from the least on, so only one that is better takes the place of the best. */
        private void tryValve(int place, int left) {
            if (place >= columns || place >= MOST_TOLD) {
                weighTrial();
                return;
            }
            for (int drops = 0; drops <= left && drops <= MOST_EACH; drops++) {
                trial[told[place]] = drops;
                tryValve(place + 1, left - drops);
            }
        }

        private void weighTrial() {
            pour(trial, trialKept);
            int sum = 0;
            for (int c = 0; c < CELLS; c++) {
                sum += growthBy[c * (MOST_NEED + 1) + trialKept[c]];
            }
            if (sum > mostGrowth) {
                mostGrowth = sum;
                for (int place = 0; place < columns; place++) {
                    best[place] = trial[told[place]];
                }
            }
        }

        private int dropsAt(int place) {
            return within(place, MOST_TOLD - 1) ? best[place] : NONE;
        }
    }

    private static final class Tape {
        private static final int MOST = 220;

        private final int[] bytes = new int[MOST];
        private int length;

        private void append(int four) {
            for (int shift = 24; shift >= 0 && length < MOST; shift -= 8) {
                bytes[length] = four >>> shift & 255;
                length++;
            }
        }

        private int numberAt(int place) {
            int number = 0;
            for (int i = 4 * place; i >= 0 && i < 4 * place + 4 && i < MOST; i++) {
                number = number << 8 | bytes[i];
            }
            return number;
        }
    }

    /**
     * THE LAW as steps for a stack. A step is named by its sign: 0 puts a number, k a letter's worth; &amp; and | leave
     * out what does not matter any more and let the top stay, else they take it off.
     */
    private static final class Statute {
        private static final int LONGEST = 200;
        private static final int MOST_CLAUSES = 14;
        private static final int LETTERS = 14;
        private static final int DEEPEST = 40;

        private final int[] step = new int[LONGEST];
        private final int[] operand = new int[LONGEST];
        private final int[] letter = new int[MOST_CLAUSES];
        private final int[] begin = new int[MOST_CLAUSES];
        private final int[] split = new int[MOST_CLAUSES];
        private final int[] end = new int[MOST_CLAUSES];
        private final int[] stack = new int[DEEPEST];
        private int clauses;
        private int size;
        private int height;

        private void put(int sign, int number) {
            if (size < LONGEST) {
                step[size] = sign;
                operand[size] = number;
                size++;
            }
        }

        private int answer(int which, int most, int[] seen) {
            for (int i = 0; i < clauses && i < MOST_CLAUSES; i++) {
                if (letter[i] == which && reckon(split[i], end[i], seen) != 0) {
                    return Math.max(0, Math.min(most, reckon(begin[i], split[i], seen)));
                }
            }
            return 0;
        }

        /** What is REFUSED answers 0, which is both an E of 0 and a C that does not hold. */
        private int reckon(int from, int to, int[] seen) {
            height = 0;
            for (int at = from; at < to && at < LONGEST; at++) {
                int sign = step[at];
                if (sign == '0' || sign == 'k') {
                    if (height >= DEEPEST) {
                        return 0;
                    }
                    stack[height] = sign == '0' ? operand[at] : seen[operand[at]];
                    height++;
                } else if (height < 1) {
                    return 0;
                } else if (sign == '!') {
                    stack[height - 1] = 1 - stack[height - 1];
                } else if (sign == '&' || sign == '|') {
                    if (stack[height - 1] != 0 == (sign == '|')) {
                        at = Math.max(at, operand[at] - 1);
                    } else {
                        height--;
                    }
                } else if (height < 2 || stack[height - 1] == 0 && (sign == '/' || sign == '%')) {
                    return 0;
                } else {
                    height--;
                    stack[height - 1] = joined(sign, stack[height - 1], stack[height]);
                }
            }
            return height > 0 ? stack[0] : 0;
        }

        private static int joined(int sign, int a, int b) {
            switch (sign) {
                case '+':
                    return a + b;
                case '-':
                    return a - b;
                case '*':
                    return a * b;
                case '/':
                    return b == 0 ? 0 : a / b;
                case '%':
                    return b == 0 ? 0 : a % b;
                case '<':
                    return a < b ? 1 : 0;
                case '>':
                    return a > b ? 1 : 0;
                default:
                    return a == b ? 1 : 0;
            }
        }
    }

    /** Reads a TEXT into a Statute. A method that reads answers false as soon as a FAULT is found. */
    private static final class Reader {
        private static final String LETTERS = "kyxlsnjwrpdtmb";
        private static final String CLAUSE_LETTERS = "gfacoq";
        private static final int DEEPEST = 6;
        private static final int MOST_DIGITS = 5;
        private static final int END = -1;

        private Tape text;
        private Statute into;
        private int length;
        private int at;
        private int fault;

        /** How many CLAUSES, or the FAULT with its place. */
        private int read(Tape tape, int n, Statute statute) {
            text = tape;
            into = statute;
            length = n;
            at = 0;
            fault = 0;
            statute.clauses = 0;
            statute.size = 0;
            for (int i = 0; i <= Statute.MOST_CLAUSES && readClause(); i++) {
                if (look() == END) {
                    return statute.clauses;
                }
                if (!expect(';')) {
                    return fault;
                }
            }
            return fault;
        }

        private int look() {
            return at >= 0 && at < length && at < Tape.MOST ? text.bytes[at] : END;
        }

        private boolean fail(int number) {
            fault = -1000 * number - at;
            return false;
        }

        private boolean expect(int sign) {
            if (look() != sign) {
                return fail(1);
            }
            at++;
            return true;
        }

        /** Steps over a sign that opens something, if that may be open in what is open already. */
        private boolean enter(int depth) {
            if (depth >= DEEPEST) {
                return fail(5);
            }
            at++;
            return true;
        }

        private static boolean isOneOf(int sign, String signs) {
            return sign > 0 && signs.indexOf((char) sign) >= 0;
        }

        private boolean readClause() {
            int sign = look();
            if (!isOneOf(sign, CLAUSE_LETTERS)) {
                return fail(1);
            }
            int i = into.clauses;
            if (i >= Statute.MOST_CLAUSES) {
                return fail(4);
            }
            at++;
            into.letter[i] = sign;
            into.begin[i] = into.size;
            if (!readSum(0) || !expect('(')) {
                return false;
            }
            into.split[i] = into.size;
            if (!readCondition(1) || !expect(')')) {
                return false;
            }
            into.end[i] = into.size;
            into.clauses++;
            return true;
        }

        private boolean readCondition(int depth) {
            boolean well = readPart(depth);
            for (int i = 0; i < Statute.LONGEST && well && look() == '|'; i++) {
                int jump = readJump();
                well = readPart(depth);
                into.operand[jump] = into.size;
            }
            return well;
        }

        private boolean readPart(int depth) {
            boolean well = readPiece(depth);
            for (int i = 0; i < Statute.LONGEST && well && look() == '&'; i++) {
                int jump = readJump();
                well = readPiece(depth);
                into.operand[jump] = into.size;
            }
            return well;
        }

        /** Where it jumps to is known only when what stands behind it has been read. */
        private int readJump() {
            int jump = Math.min(into.size, Statute.LONGEST - 1);
            into.put(look(), 0);
            at++;
            return jump;
        }

        private boolean readPiece(int depth) {
            int sign = look();
            if (sign == '(') {
                return enter(depth) && readCondition(depth + 1) && expect(')');
            }
            if (sign == '!') {
                if (!enter(depth) || !readPiece(depth + 1)) {
                    return false;
                }
                into.put('!', 0);
                return true;
            }
            return readComparison(depth);
        }

        private boolean readComparison(int depth) {
            if (!readSum(depth)) {
                return false;
            }
            int sign = look();
            if (!isOneOf(sign, "<>=")) {
                return fail(1);
            }
            at++;
            if (!readSum(depth)) {
                return false;
            }
            into.put(sign, 0);
            return true;
        }

        private boolean readSum(int depth) {
            boolean well = readTerm(depth);
            for (int i = 0; i < Statute.LONGEST && well && isOneOf(look(), "+-"); i++) {
                int sign = look();
                at++;
                well = readTerm(depth);
                into.put(sign, 0);
            }
            return well;
        }

        private boolean readTerm(int depth) {
            boolean well = readFactor(depth);
            for (int i = 0; i < Statute.LONGEST && well && isOneOf(look(), "*/%"); i++) {
                int sign = look();
                at++;
                well = readFactor(depth);
                into.put(sign, 0);
            }
            return well;
        }

        private boolean readFactor(int depth) {
            int sign = look();
            if (sign == '[') {
                return enter(depth) && readSum(depth + 1) && expect(']');
            }
            if (isDigit(sign)) {
                return readNumber();
            }
            if (!isOneOf(sign, LETTERS)) {
                return fail(1);
            }
            into.put('k', LETTERS.indexOf((char) sign));
            at++;
            return true;
        }

        private static boolean isDigit(int sign) {
            return sign >= '0' && sign <= '9';
        }

        private boolean readNumber() {
            int number = 0;
            for (int i = 0; i < MOST_DIGITS && isDigit(look()); i++) {
                number = 10 * number + look() - '0';
                at++;
            }
            if (isDigit(look())) {
                return fail(2);
            }
            into.put('0', number);
            return true;
        }
    }

    /**
     * The cheapest row of some CELLS. To take one next costs what the step from the last one costs, and its worth
     * for each hour till it is done; some must come ahead of it.
     */
    private static final class Rounds {
        private static final int MOST = 8;
        private static final int FROM = MOST + 1;
        private static final int FAR = 1000000000;

        private final int[] cells = new int[MOST];
        private final int[] step = new int[FROM * MOST];
        private final int[] worth = new int[MOST];
        private final int[] hours = new int[MOST];
        private final int[] ahead = new int[MOST];
        private final int[] onward = new int[FROM << MOST];
        private final int[] row = new int[MOST];
        private int told;

        private void tell(long bits) {
            told = 0;
            for (int c = 0; c < CELLS; c++) {
                if (isTold(bits, c) && told < MOST) {
                    cells[told] = c;
                    told++;
                }
            }
        }

        private void asWork(int column) {
            for (int next = 0; next < told; next++) {
                for (int last = 0; last < told; last++) {
                    step[last * MOST + next] = hoursBetween(cells[last], cells[next]) + 1;
                }
                step[MOST * MOST + next] = hoursBetween(column * LEVELS, cells[next]) + 1;
                worth[next] = 0;
                hours[next] = 0;
                ahead[next] = 0;
            }
        }

        private static int hoursBetween(int a, int b) {
            return 2 * Math.abs(a / LEVELS - b / LEVELS) + Math.abs(a % LEVELS - b % LEVELS);
        }

        private void asMending(int[] hourCosts) {
            Arrays.fill(step, 0);
            for (int next = 0; next < told; next++) {
                int level = cells[next] % LEVELS;
                worth[next] = hourCosts[cells[next] / LEVELS];
                hours[next] = 1 + level;
                boolean below = next > 0 && level > 0 && cells[next - 1] == cells[next] - 1;
                ahead[next] = below ? 1 << next - 1 : 0;
            }
        }

        /** Of what is done (bits) and the last of it, what all the rest costs at least. */
        private void solve() {
            int all = (1 << told) - 1;
            for (int done = all; done >= 0; done--) {
                int spent = spentOn(done);
                for (int last = 0; last < FROM; last++) {
                    boolean can = done == 0 ? last == MOST : (done >> last & 1) != 0;
                    if (can) {
                        onward[done * FROM + last] = done == all ? 0 : leastOnward(done, last, spent);
                    }
                }
            }
            findRow(all);
        }

        private int spentOn(int done) {
            int spent = 0;
            for (int i = 0; i < told; i++) {
                if ((done >> i & 1) != 0) {
                    spent += hours[i];
                }
            }
            return spent;
        }

        private int leastOnward(int done, int last, int spent) {
            int least = FAR;
            for (int next = 0; next < told; next++) {
                least = Math.min(least, costVia(done, last, next, spent));
            }
            return least;
        }

        private int costVia(int done, int last, int next, int spent) {
            if ((done >> next & 1) != 0 || (ahead[next] & ~done) != 0) {
                return FAR;
            }
            int own = step[last * MOST + next] + worth[next] * (spent + hours[next]);
            return own + onward[(done | 1 << next) * FROM + next];
        }

        private void findRow(int all) {
            int done = 0;
            int last = MOST;
            for (int place = 0; place < told && done != all; place++) {
                int spent = spentOn(done);
                int next = 0;
                while (next < told - 1 && costVia(done, last, next, spent) != onward[done * FROM + last]) {
                    next++;
                }
                row[place] = cells[next];
                done |= 1 << next;
                last = next;
            }
        }

        private int least() {
            return onward[MOST];
        }

        private int cellAt(int place) {
            return within(place, MOST - 1) ? row[place] : NONE;
        }
    }

    /** KINDS for some CELLS that feed most, while every KNOT BEARS and no ROOF is hit. */
    private static final class Planting {
        private static final int MOST = 5;

        private final Nets nets;
        private final Brow brow;
        private final int[] spare = new int[CELLS];
        private final int[] cells = new int[MOST];
        private final int[] trial = new int[MOST];
        private final int[] best = new int[MOST];
        private int told;
        private int mostWorth;

        private Planting(Nets nets, Brow brow) {
            this.nets = nets;
            this.brow = brow;
        }

        /** False if some KNOT does not BEAR even without new CROPS. */
        private boolean choose(long bits) {
            told = 0;
            mostWorth = NONE;
            for (int c = 0; c < CELLS; c++) {
                if (nets.hangs(c)) {
                    spare[c] = nets.knot[c] - nets.ripeLoadOf(c);
                    if (spare[c] < 0) {
                        return false;
                    }
                }
                if (isTold(bits, c) && told < MOST) {
                    cells[told] = c;
                    told++;
                }
            }
            tryCell(0, 0);
            return true;
        }

        /** Rows come from the least on, so only one that is better takes the place of the best. */
        private void tryCell(int place, int sum) {
            if (place >= told || place >= MOST) {
                if (sum > mostWorth) {
                    mostWorth = sum;
                    System.arraycopy(trial, 0, best, 0, MOST);
                }
                return;
            }
            trial[place] = NONE;
            tryCell(place + 1, sum);
            for (int k = 0; k < KINDS; k++) {
                int heavy = nets.ripe[k];
                if (fits(cells[place], heavy)) {
                    trial[place] = k;
                    burden(cells[place], heavy);
                    tryCell(place + 1, sum + heavy * nets.worth[k]);
                    burden(cells[place], -heavy);
                }
            }
        }

        private boolean fits(int at, int heavy) {
            if (heavy * (LEVELS - at % LEVELS) > brow.roof[at / LEVELS]) {
                return false;
            }
            for (int c = at - at % LEVELS; c <= at; c++) {
                if (spare[c] < heavy) {
                    return false;
                }
            }
            return true;
        }

        private void burden(int at, int heavy) {
            for (int c = at - at % LEVELS; c <= at; c++) {
                spare[c] -= heavy;
            }
        }

        private void carryOut() {
            for (int place = 0; place < told; place++) {
                if (best[place] != NONE) {
                    nets.setCrop(cells[place], best[place], 0);
                }
            }
        }

        private int kindAt(int place) {
            return within(place, MOST - 1) ? best[place] : NONE;
        }
    }

    /** In how many of all ways POLLEN comes to a COLUMN, as a fraction. */
    private static final class Swallow {
        private static final int WITHOUT = 0;
        private static final int WITH = 1;
        private static final int BROUGHT = 2;
        private static final int STATES = 3;

        private final int[] ways = new int[COLUMNS * STATES];
        private final int[] before = new int[COLUMNS * STATES];
        private int above;
        private int below;

        private void fly(int from, int to, int blooming, int steps) {
            Arrays.fill(ways, 0);
            arrive(from, WITHOUT, 1, to, blooming);
            below = 1;
            for (int i = 0; i < steps; i++) {
                System.arraycopy(ways, 0, before, 0, COLUMNS * STATES);
                Arrays.fill(ways, 0);
                for (int s = 0; s < COLUMNS * STATES; s++) {
                    int column = s / STATES;
                    arrive(Math.max(0, column - 1), s % STATES, before[s], to, blooming);
                    arrive(column, s % STATES, before[s], to, blooming);
                    arrive(Math.min(COLUMNS - 1, column + 1), s % STATES, before[s], to, blooming);
                }
                below *= 3;
            }
            above = 0;
            for (int column = 0; column < COLUMNS; column++) {
                above += ways[column * STATES + BROUGHT];
            }
            cancel(steps);
        }

        private void arrive(int column, int state, int many, int to, int blooming) {
            int now = state;
            if (now == WITHOUT && (blooming >> column & 1) != 0) {
                now = WITH;
            }
            if (now == WITH && column == to) {
                now = BROUGHT;
            }
            ways[column * STATES + now] += many;
        }

        /** All ways are a power of three, so no other divisor can be common. */
        private void cancel(int steps) {
            for (int i = 0; i < steps && above % 3 == 0; i++) {
                above /= 3;
                below /= 3;
            }
        }
    }
}
