import java.util.Arrays;

/**
 * A registry of echoes: soundings on a chart that join to shapes, divers who name them, with air by
 * depth and rests behind their dives, claims that the first finder has for a term and that move as
 * shapes are parted and joined, and things that are raised for rewards, less what the law keeps.
 */
public final class EchoRegistry {
    /** None. */
    public static final int NONE = -1;

    /** Names of shapes. */
    public static final int NO_NAME = 0, ROCK = 1, WRECK = 2, THING = 3;

    private static final int ROWS = 8;
    private static final int COLUMNS = 12;
    private static final int CELLS = ROWS * COLUMNS;
    private static final int DEPTH_OF_A_ROW = 10;
    private static final int GREATEST_HEIGHT = 9;

    private static final int DIVERS = 4;
    private static final int FULL_BOTTLE = 200;
    private static final int SHORTEST_NAMING = 5;
    private static final int SHORTEST_RAISING = 10;
    private static final int LONGEST_DIVE = 60;
    private static final int DEPTH_FOR_A_UNIT = 10;
    private static final int DEPTH_FOR_EQUAL_REST = 20;

    private static final int FINDERS = 6;
    private static final int MOST_CLAIMS = 40;
    private static final int CLAIM_TERM = 28800;

    private static final int MOST_THINGS = 60;
    private static final int GREATEST_VALUE = 100000;

    private static final int LONGEST_ADVANCE = 14400;
    private static final int LAST_MINUTE = 1000000;

    private final Chart chart;
    private final Crew crew;
    private final ClaimBook book;
    private final Ledger ledger;
    private final StringBuilder title;
    private int now;

    /** All heights are 0; no marks, claims and things; all divers are free, with full bottles; the minute 0. */
    public EchoRegistry() {
        chart = new Chart();
        crew = new Crew();
        book = new ClaimBook();
        ledger = new Ledger();
        title = new StringBuilder();
        now = 0;
    }

    // ---- soundings and shapes

    /** Sounds a cell; returns the height before. */
    public int sound(int cell, int height) throws IndexOutOfBoundsException, IllegalArgumentException {
        requireCell(cell);
        requireHeight(height);
        int before = chart.heightAt(cell);
        chart.setHeight(cell, height);
        chart.joinShapes();
        return before;
    }

    /** Sounds some cells of a row, one behind the other, with the same height; returns how many shapes there are then. */
    public int sweep(int cell, int many, int height) throws IndexOutOfBoundsException, IllegalArgumentException {
        requireCell(cell);
        requireWithin(many, 1, COLUMNS - columnOf(cell));
        requireHeight(height);
        for (int step = 0; step < many; step++) {
            chart.setHeight(cell + step, height);
        }
        chart.joinShapes();
        return chart.countShapes();
    }

    /** Returns how many shapes there are. */
    public int shapes() {
        return chart.countShapes();
    }

    /** Returns the shape that a cell is in, told by its lowest cell; NONE if the cell is in none. */
    public int shapeOf(int cell) throws IndexOutOfBoundsException {
        requireCell(cell);
        return chart.shapeAt(cell);
    }

    /** Returns how many cells the shape has that a cell is in; 0 if the cell is in none. */
    public int size(int cell) throws IndexOutOfBoundsException {
        requireCell(cell);
        return chart.countCells(chart.shapeAt(cell));
    }

    /** Returns the greatest height in the shape that a cell is in; 0 if the cell is in none. */
    public int top(int cell) throws IndexOutOfBoundsException {
        requireCell(cell);
        return chart.greatestHeight(chart.shapeAt(cell));
    }

    /** Returns the name of the shape that a cell is in; NO_NAME if it has none, or the cell is in no shape. */
    public int nameOf(int cell) throws IndexOutOfBoundsException {
        requireCell(cell);
        return chart.nameOfShape(chart.shapeAt(cell));
    }

    /** Returns a sign of the title of the shape that a cell is in; NONE behind the last one, or if the cell is in no shape. */
    public int titleAt(int cell, int place) throws IndexOutOfBoundsException {
        requireCell(cell);
        if (place < 0) {
            throw new IndexOutOfBoundsException("no such place");
        }
        int shape = chart.shapeAt(cell);
        if (shape == NONE) {
            return NONE;
        }
        writeTitle(shape);
        if (place >= title.length()) {
            return NONE;
        }
        return title.charAt(place);
    }

    // ---- divers

    /** A diver names; returns the name of the shape that the cell is in then; NO_NAME if it is in none. */
    public int name(int diver, int cell, int minutes, int name)
            throws IndexOutOfBoundsException, IllegalArgumentException, IllegalStateException {
        requireDiver(diver);
        requireCell(cell);
        requireWithin(minutes, SHORTEST_NAMING, LONGEST_DIVE);
        requireWithin(name, ROCK, THING);
        requireDive(diver, cell, minutes);
        crew.dive(diver, cell, minutes, now);
        chart.layMark(cell, name);
        return chart.nameOfShape(chart.shapeAt(cell));
    }

    /** A diver raises a thing; returns the number of the thing. */
    public int raise(int diver, int cell, int minutes, int value)
            throws IndexOutOfBoundsException, IllegalArgumentException, IllegalStateException {
        requireDiver(diver);
        requireCell(cell);
        requireWithin(minutes, SHORTEST_RAISING, LONGEST_DIVE);
        requireWithin(value, 1, GREATEST_VALUE);
        requireDive(diver, cell, minutes);
        int shape = chart.shapeAt(cell);
        requireOpenShape(shape);
        if (ledger.isFull()) {
            throw new IllegalStateException("no room for a thing");
        }
        crew.dive(diver, cell, minutes, now);
        return ledger.enter(shape, finderOfShape(shape), value, chart.nameOfShape(shape));
    }

    /** Fills the bottle of a diver; returns how many units come into it. */
    public int fill(int diver) throws IndexOutOfBoundsException, IllegalStateException {
        requireDiver(diver);
        requireFree(diver);
        return crew.fillBottle(diver);
    }

    /** Returns the air of a diver. */
    public int air(int diver) throws IndexOutOfBoundsException {
        requireDiver(diver);
        return crew.airOf(diver);
    }

    /** Returns in how many minutes a diver is free; 0 if the diver is free. */
    public int rest(int diver) throws IndexOutOfBoundsException {
        requireDiver(diver);
        return crew.minutesUntilFree(diver, now);
    }

    /** Returns the longest dive, at most 60 minutes, that a diver could make to a cell with the air that there is, free or not. */
    public int longest(int diver, int cell) throws IndexOutOfBoundsException {
        requireDiver(diver);
        requireCell(cell);
        return crew.longestDive(diver, cell);
    }

    // ---- claims

    /** A finder makes a claim; returns its number. */
    public int claim(int finder, int cell) throws IndexOutOfBoundsException, IllegalStateException {
        requireFinder(finder);
        requireCell(cell);
        int shape = chart.shapeAt(cell);
        requireOpenShape(shape);
        if (finderOfShape(shape) != NONE) {
            throw new IllegalStateException("the shape has a finder");
        }
        if (book.isFull()) {
            throw new IllegalStateException("no room for a claim");
        }
        return book.enter(finder, cell, now);
    }

    /** Renews a claim for a whole term from now on; returns how many minutes it would have run still, this minute counted. */
    public int renew(int claim) throws IndexOutOfBoundsException, IllegalStateException {
        requireClaim(claim);
        if (!book.isRunning(claim, now)) {
            throw new IllegalStateException("the claim does not run");
        }
        return book.startTerm(claim, now);
    }

    /** Lets minutes pass; returns the minute then. */
    public int advance(int minutes) throws IllegalArgumentException, IllegalStateException {
        requireWithin(minutes, 1, LONGEST_ADVANCE);
        if (minutes > LAST_MINUTE - now) {
            throw new IllegalStateException("behind the last minute");
        }
        now += minutes;
        return now;
    }

    /** Returns the minute. */
    public int minute() {
        return now;
    }

    /** Returns the finder of the shape that a cell is in, by shapes as they are kept; NONE if there is none. */
    public int finder(int cell) throws IndexOutOfBoundsException {
        requireCell(cell);
        return finderOfShape(chart.shapeAt(cell));
    }

    /** Returns the same, found from all soundings: going out from the cell by neighbours. */
    public int finderBySoundings(int cell) throws IndexOutOfBoundsException {
        requireCell(cell);
        int many = chart.goOut(cell);
        if (chart.nameOfReached(many) == ROCK) {
            return NONE;
        }
        for (int claim = 0; claim < book.count(); claim++) {
            if (book.isRunning(claim, now) && chart.isReached(book.cellOf(claim), many)) {
                return book.finderOf(claim);
            }
        }
        return NONE;
    }

    /** Returns how many claims there were. */
    public int claims() {
        return book.count();
    }

    /** Tells whether a claim runs. */
    public boolean runs(int claim) throws IndexOutOfBoundsException {
        requireClaim(claim);
        return book.isRunning(claim, now);
    }

    /** Tells whether the finder of the shape that the cell of a claim is in is its finder by this very claim. */
    public boolean holds(int claim) throws IndexOutOfBoundsException {
        requireClaim(claim);
        return claimOnShape(chart.shapeAt(book.cellOf(claim))) == claim;
    }

    // ---- things and rewards

    /** Returns how many things were raised. */
    public int things() {
        return ledger.count();
    }

    /** Returns the shape that a thing was raised from, told by its lowest cell, as it was then. */
    public int shapeOfThing(int thing) throws IndexOutOfBoundsException {
        requireThing(thing);
        return ledger.shapeBehind(thing);
    }

    /** Returns the finder of a thing; NONE if it has none. */
    public int finderOfThing(int thing) throws IndexOutOfBoundsException {
        requireThing(thing);
        return ledger.finderBehind(thing);
    }

    /** Returns what a finder got of all things. */
    public int reward(int finder) throws IndexOutOfBoundsException {
        requireFinder(finder);
        return ledger.rewardOf(finder);
    }

    /** Returns what the law kept of all things. */
    public int kept() {
        return ledger.keptByLaw();
    }

    // ---- what the calls share

    /** The claim by which a shape has its finder; NONE if it has none. */
    private int claimOnShape(int shape) {
        if (shape == NONE || chart.nameOfShape(shape) == ROCK) {
            return NONE;
        }
        for (int claim = 0; claim < book.count(); claim++) {
            if (book.isRunning(claim, now) && chart.shapeAt(book.cellOf(claim)) == shape) {
                return claim;
            }
        }
        return NONE;
    }

    private int finderOfShape(int shape) {
        int claim = claimOnShape(shape);
        return claim == NONE ? NONE : book.finderOf(claim);
    }

    private void writeTitle(int shape) {
        title.setLength(0);
        title.append(signOf(chart.nameOfShape(shape)));
        title.append(shape);
        title.append('x');
        title.append(chart.countCells(shape));
        int finder = finderOfShape(shape);
        if (finder != NONE) {
            title.append('f');
            title.append(finder);
        }
    }

    private static char signOf(int name) {
        switch (name) {
            case ROCK:
                return 'R';
            case WRECK:
                return 'W';
            case THING:
                return 'T';
            default:
                return 'N';
        }
    }

    private static boolean isCell(int cell) {
        return cell >= 0 && cell < CELLS;
    }

    private static int columnOf(int cell) {
        return cell % COLUMNS;
    }

    private static int depthAt(int cell) {
        return DEPTH_OF_A_ROW * (cell / COLUMNS + 1);
    }

    // ---- what the calls refuse

    private static void requireCell(int cell) {
        if (!isCell(cell)) {
            throw new IndexOutOfBoundsException("no such cell");
        }
    }

    private static void requireDiver(int diver) {
        if (diver < 0 || diver >= DIVERS) {
            throw new IndexOutOfBoundsException("no such diver");
        }
    }

    private static void requireFinder(int finder) {
        if (finder < 0 || finder >= FINDERS) {
            throw new IndexOutOfBoundsException("no such finder");
        }
    }

    private void requireClaim(int claim) {
        if (!book.has(claim)) {
            throw new IndexOutOfBoundsException("no such claim");
        }
    }

    private void requireThing(int thing) {
        if (!ledger.has(thing)) {
            throw new IndexOutOfBoundsException("no such thing");
        }
    }

    private static void requireHeight(int height) {
        requireWithin(height, 0, GREATEST_HEIGHT);
    }

    private static void requireWithin(int number, int least, int most) {
        if (number < least || number > most) {
            throw new IllegalArgumentException("out of range");
        }
    }

    private void requireFree(int diver) {
        if (!crew.isFree(diver, now)) {
            throw new IllegalStateException("the diver is not free");
        }
    }

    private void requireDive(int diver, int cell, int minutes) {
        requireFree(diver);
        if (crew.airOf(diver) < Crew.airForDive(cell, minutes)) {
            throw new IllegalStateException("too little air");
        }
    }

    private void requireOpenShape(int shape) {
        if (shape == NONE) {
            throw new IllegalStateException("no shape there");
        }
        if (chart.nameOfShape(shape) == ROCK) {
            throw new IllegalStateException("a rock");
        }
    }

    /** The heights and marks of the cells, and the shapes that the cells join to. */
    private static final class Chart {
        private final int[] heights;
        private final int[] marks;
        /** The turn in which each cell's mark was laid, from 1; 0 where there is no mark. */
        private final int[] turns;
        /** The lowest cell of the shape that each cell is in, or NONE. */
        private final int[] lowest;
        /** The cells that the last outing reached, in the order in which it did. */
        private final int[] reached;
        /** The outing that reached each cell last, so that no row must be cleared ahead of the next one. */
        private final int[] reachedIn;
        private int marksLaid;
        private int outing;

        Chart() {
            heights = new int[CELLS];
            marks = new int[CELLS];
            turns = new int[CELLS];
            lowest = new int[CELLS];
            Arrays.fill(lowest, NONE);
            reached = new int[CELLS];
            reachedIn = new int[CELLS];
            marksLaid = 0;
            outing = 0;
        }

        int heightAt(int cell) {
            return isCell(cell) ? heights[cell] : 0;
        }

        void setHeight(int cell, int height) {
            if (isCell(cell)) {
                heights[cell] = height;
            }
        }

        int shapeAt(int cell) {
            return isCell(cell) ? lowest[cell] : NONE;
        }

        /** Finds all shapes anew from the heights; by rising cells, so that an outing starts at a shape's lowest. */
        void joinShapes() {
            Arrays.fill(lowest, NONE);
            for (int cell = 0; cell < CELLS; cell++) {
                if (lowest[cell] == NONE) {
                    tellShape(cell, goOut(cell));
                }
            }
        }

        private void tellShape(int shape, int many) {
            for (int i = 0; i < many && i < CELLS; i++) {
                int cell = reached[i];
                if (isCell(cell)) {
                    lowest[cell] = shape;
                }
            }
        }

        /** Goes out from a cell by neighbours with heights above 0; returns how many cells this reaches, 0 from a height of 0. */
        int goOut(int cell) {
            outing++;
            int many = reach(cell, 0);
            for (int next = 0; next < many && next < CELLS; next++) {
                int from = reached[next];
                int column = columnOf(from);
                many = reach(from - COLUMNS, many);
                many = reach(from + COLUMNS, many);
                if (column > 0) {
                    many = reach(from - 1, many);
                }
                if (column < COLUMNS - 1) {
                    many = reach(from + 1, many);
                }
            }
            return many;
        }

        private int reach(int cell, int many) {
            if (!isCell(cell) || many >= CELLS || heights[cell] == 0 || reachedIn[cell] == outing) {
                return many;
            }
            reachedIn[cell] = outing;
            reached[many] = cell;
            return many + 1;
        }

        boolean isReached(int cell, int many) {
            for (int i = 0; i < many && i < CELLS; i++) {
                if (reached[i] == cell) {
                    return true;
                }
            }
            return false;
        }

        int nameOfReached(int many) {
            int last = 0;
            int name = NO_NAME;
            for (int i = 0; i < many && i < CELLS; i++) {
                int cell = reached[i];
                if (isCell(cell) && turns[cell] > last) {
                    last = turns[cell];
                    name = marks[cell];
                }
            }
            return name;
        }

        int nameOfShape(int shape) {
            int last = 0;
            int name = NO_NAME;
            for (int cell = 0; cell < CELLS; cell++) {
                if (isIn(cell, shape) && turns[cell] > last) {
                    last = turns[cell];
                    name = marks[cell];
                }
            }
            return name;
        }

        void layMark(int cell, int name) {
            if (isCell(cell)) {
                marksLaid++;
                marks[cell] = name;
                turns[cell] = marksLaid;
            }
        }

        int countShapes() {
            int many = 0;
            for (int cell = 0; cell < CELLS; cell++) {
                if (lowest[cell] == cell) {
                    many++;
                }
            }
            return many;
        }

        int countCells(int shape) {
            int many = 0;
            for (int cell = 0; cell < CELLS; cell++) {
                if (isIn(cell, shape)) {
                    many++;
                }
            }
            return many;
        }

        int greatestHeight(int shape) {
            int greatest = 0;
            for (int cell = 0; cell < CELLS; cell++) {
                if (isIn(cell, shape)) {
                    greatest = Math.max(greatest, heights[cell]);
                }
            }
            return greatest;
        }

        /** NONE is no shape, though all cells outside of the shapes are told by it. */
        private boolean isIn(int cell, int shape) {
            return shape != NONE && isCell(cell) && lowest[cell] == shape;
        }
    }

    /** The divers: the air that they have, and from which minute on they are free. */
    private static final class Crew {
        private final int[] airs;
        private final int[] freeFrom;

        Crew() {
            airs = new int[DIVERS];
            Arrays.fill(airs, FULL_BOTTLE);
            freeFrom = new int[DIVERS];
        }

        private static boolean isDiver(int diver) {
            return diver >= 0 && diver < DIVERS;
        }

        /** Each minute takes 1 unit, and 1 more for each full 10 of the depth. */
        static int airForDive(int cell, int minutes) {
            return minutes * (1 + depthAt(cell) / DEPTH_FOR_A_UNIT);
        }

        int airOf(int diver) {
            return isDiver(diver) ? airs[diver] : 0;
        }

        int minutesUntilFree(int diver, int now) {
            return isDiver(diver) ? Math.max(0, freeFrom[diver] - now) : 0;
        }

        boolean isFree(int diver, int now) {
            return minutesUntilFree(diver, now) == 0;
        }

        void dive(int diver, int cell, int minutes, int now) {
            if (isDiver(diver)) {
                airs[diver] -= airForDive(cell, minutes);
                freeFrom[diver] = now + minutes + minutes * depthAt(cell) / DEPTH_FOR_EQUAL_REST;
            }
        }

        int fillBottle(int diver) {
            if (!isDiver(diver)) {
                return 0;
            }
            int units = FULL_BOTTLE - airs[diver];
            airs[diver] = FULL_BOTTLE;
            return units;
        }

        int longestDive(int diver, int cell) {
            int minutes = LONGEST_DIVE;
            while (minutes > 0 && airForDive(cell, minutes) > airOf(diver)) {
                minutes--;
            }
            return minutes;
        }
    }

    /** The claims by their numbers: of whom they are, on which cells, and to what minute they run. */
    private static final class ClaimBook {
        private final int[] finders;
        private final int[] cells;
        /** The first minute in which each claim runs no more. */
        private final int[] ends;
        private int count;

        ClaimBook() {
            finders = new int[MOST_CLAIMS];
            cells = new int[MOST_CLAIMS];
            ends = new int[MOST_CLAIMS];
            count = 0;
        }

        int count() {
            return count;
        }

        boolean isFull() {
            return count >= MOST_CLAIMS;
        }

        boolean has(int claim) {
            return claim >= 0 && claim < count && claim < MOST_CLAIMS;
        }

        int enter(int finder, int cell, int now) {
            if (isFull()) {
                return NONE;
            }
            int claim = count;
            finders[claim] = finder;
            cells[claim] = cell;
            ends[claim] = now + CLAIM_TERM;
            count++;
            return claim;
        }

        int finderOf(int claim) {
            return has(claim) ? finders[claim] : NONE;
        }

        int cellOf(int claim) {
            return has(claim) ? cells[claim] : NONE;
        }

        boolean isRunning(int claim, int now) {
            return has(claim) && now < ends[claim];
        }

        /** Starts a term in this minute; returns how many minutes were left of the one before. */
        int startTerm(int claim, int now) {
            if (!has(claim)) {
                return 0;
            }
            int left = ends[claim] - now;
            ends[claim] = now + CLAIM_TERM;
            return left;
        }
    }

    /** The things by their numbers, and what the finders got and the law kept of them. */
    private static final class Ledger {
        private final int[] shapesBehind;
        private final int[] findersBehind;
        private final int[] rewards;
        private int count;
        private int lawsSum;

        Ledger() {
            shapesBehind = new int[MOST_THINGS];
            findersBehind = new int[MOST_THINGS];
            rewards = new int[FINDERS];
            count = 0;
            lawsSum = 0;
        }

        int count() {
            return count;
        }

        boolean isFull() {
            return count >= MOST_THINGS;
        }

        boolean has(int thing) {
            return thing >= 0 && thing < count && thing < MOST_THINGS;
        }

        int enter(int shape, int finder, int value, int name) {
            if (isFull()) {
                return NONE;
            }
            int thing = count;
            shapesBehind[thing] = shape;
            findersBehind[thing] = finder;
            count++;
            share(finder, value, name);
            return thing;
        }

        private void share(int finder, int value, int name) {
            if (isFinder(finder)) {
                int part = lawsPart(value, name);
                lawsSum += part;
                rewards[finder] += value - part;
            } else {
                lawsSum += value;
            }
        }

        private static boolean isFinder(int finder) {
            return finder >= 0 && finder < FINDERS;
        }

        private static int lawsPart(int value, int name) {
            switch (name) {
                case WRECK:
                    return (value + 1) / 2;
                case THING:
                    return (value + 9) / 10;
                default:
                    return (value + 3) / 4;
            }
        }

        int shapeBehind(int thing) {
            return has(thing) ? shapesBehind[thing] : NONE;
        }

        int finderBehind(int thing) {
            return has(thing) ? findersBehind[thing] : NONE;
        }

        int rewardOf(int finder) {
            return isFinder(finder) ? rewards[finder] : 0;
        }

        int keptByLaw() {
            return lawsSum;
        }
    }
}
