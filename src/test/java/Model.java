import java.util.ArrayList;
import java.util.List;
import java.util.TreeSet;

/**
 * The document once more, in another way: nothing is kept but what was done, and each answer is found from
 * that alone. It takes no care of room or speed.
 */
final class Model {
    private record Mark(int cell, int name) {
    }

    private record Dive(int diver, int row, int begin, int minutes) {
        int units() {
            return minutes * (row + 2);
        }

        int over() {
            return begin + minutes + minutes * (row + 1) / 2;
        }
    }

    private record Claim(int finder, int cell) {
    }

    private record Thing(int shape, int finder, int value, int name) {
        int part() {
            if (finder < 0) {
                return value;
            }
            int divisor = name == 2 ? 2 : name == 3 ? 10 : 4;
            return value / divisor + (value % divisor == 0 ? 0 : 1);
        }
    }

    private final int[][] heights = new int[8][12];
    private final List<Mark> marks = new ArrayList<>();
    private final List<List<Dive>> sinceFilled = new ArrayList<>();
    private final int[] free = new int[4];
    private final List<Claim> claims = new ArrayList<>();
    private final List<Integer> starts = new ArrayList<>();
    private final List<Thing> things = new ArrayList<>();
    private int minute = 0;

    Model() {
        for (int diver = 0; diver < 4; diver++) {
            sinceFilled.add(new ArrayList<>());
        }
    }

    private static void index(boolean good) {
        if (!good) {
            throw new IndexOutOfBoundsException();
        }
    }

    private static void argument(boolean good) {
        if (!good) {
            throw new IllegalArgumentException();
        }
    }

    private static void state(boolean good) {
        if (!good) {
            throw new IllegalStateException();
        }
    }

    private static void cell(int cell) {
        index(0 <= cell && cell <= 95);
    }

    private static void diver(int diver) {
        index(0 <= diver && diver <= 3);
    }

    private static void finderExists(int finder) {
        index(0 <= finder && finder <= 5);
    }

    private int height(int row, int column) {
        return row < 0 || row > 7 || column < 0 || column > 11 ? 0 : heights[row][column];
    }

    /** Grows the set by neighbours until it grows no more. */
    private TreeSet<Integer> shape(int cell) {
        TreeSet<Integer> shape = new TreeSet<>();
        if (height(cell / 12, cell % 12) == 0) {
            return shape;
        }
        shape.add(cell);
        for (boolean grew = true; grew; ) {
            TreeSet<Integer> next = new TreeSet<>(shape);
            for (int one : shape) {
                addIfHigh(next, one / 12 - 1, one % 12);
                addIfHigh(next, one / 12 + 1, one % 12);
                addIfHigh(next, one / 12, one % 12 - 1);
                addIfHigh(next, one / 12, one % 12 + 1);
            }
            grew = next.size() > shape.size();
            shape = next;
        }
        return shape;
    }

    private void addIfHigh(TreeSet<Integer> shape, int row, int column) {
        if (height(row, column) > 0) {
            shape.add(12 * row + column);
        }
    }

    private int nameOf(TreeSet<Integer> shape) {
        for (int i = marks.size() - 1; i >= 0; i--) {
            if (shape.contains(marks.get(i).cell())) {
                return marks.get(i).name();
            }
        }
        return 0;
    }

    private int holder(TreeSet<Integer> shape) {
        if (nameOf(shape) == 1) {
            return -1;
        }
        for (int i = 0; i < claims.size(); i++) {
            if (shape.contains(claims.get(i).cell()) && left(i) > 0) {
                return i;
            }
        }
        return -1;
    }

    private int finderOf(TreeSet<Integer> shape) {
        int holder = holder(shape);
        return holder < 0 ? -1 : claims.get(holder).finder();
    }

    private int left(int claim) {
        return starts.get(claim) + 28800 - minute;
    }

    int sound(int cell, int height) {
        cell(cell);
        argument(0 <= height && height <= 9);
        int before = heights[cell / 12][cell % 12];
        heights[cell / 12][cell % 12] = height;
        return before;
    }

    int sweep(int cell, int many, int height) {
        cell(cell);
        argument(1 <= many && many <= 12 && cell % 12 + many <= 12 && 0 <= height && height <= 9);
        for (int i = 0; i < many; i++) {
            heights[cell / 12][cell % 12 + i] = height;
        }
        return shapes();
    }

    int shapes() {
        TreeSet<Integer> seen = new TreeSet<>();
        int many = 0;
        for (int cell = 0; cell < 96; cell++) {
            if (!seen.contains(cell) && height(cell / 12, cell % 12) > 0) {
                seen.addAll(shape(cell));
                many++;
            }
        }
        return many;
    }

    int shapeOf(int cell) {
        cell(cell);
        TreeSet<Integer> shape = shape(cell);
        return shape.isEmpty() ? -1 : shape.first();
    }

    int size(int cell) {
        cell(cell);
        return shape(cell).size();
    }

    int top(int cell) {
        cell(cell);
        int top = 0;
        for (int one : shape(cell)) {
            top = Math.max(top, heights[one / 12][one % 12]);
        }
        return top;
    }

    int nameOf(int cell) {
        cell(cell);
        return nameOf(shape(cell));
    }

    int titleAt(int cell, int place) {
        cell(cell);
        index(place >= 0);
        TreeSet<Integer> shape = shape(cell);
        if (shape.isEmpty()) {
            return -1;
        }
        int finder = finderOf(shape);
        String title = "NRWT".charAt(nameOf(shape)) + "" + shape.first() + "x" + shape.size() + (finder < 0 ? "" : "f" + finder);
        return place < title.length() ? title.charAt(place) : -1;
    }

    private void dive(int diver, int cell, int minutes, boolean possible) {
        Dive dive = new Dive(diver, cell / 12, minute, minutes);
        state(possible && rest(diver) == 0 && air(diver) >= dive.units());
        sinceFilled.get(diver).add(dive);
        free[diver] = dive.over();
    }

    int name(int diver, int cell, int minutes, int name) {
        diver(diver);
        cell(cell);
        argument(5 <= minutes && minutes <= 60 && 1 <= name && name <= 3);
        dive(diver, cell, minutes, true);
        marks.add(new Mark(cell, name));
        return nameOf(cell);
    }

    int raise(int diver, int cell, int minutes, int value) {
        diver(diver);
        cell(cell);
        argument(10 <= minutes && minutes <= 60 && 1 <= value && value <= 100000);
        TreeSet<Integer> shape = shape(cell);
        dive(diver, cell, minutes, !shape.isEmpty() && nameOf(shape) != 1 && things.size() < 60);
        things.add(new Thing(shape.first(), finderOf(shape), value, nameOf(shape)));
        return things.size() - 1;
    }

    int fill(int diver) {
        diver(diver);
        state(rest(diver) == 0);
        int units = 200 - air(diver);
        sinceFilled.get(diver).clear();
        return units;
    }

    int air(int diver) {
        diver(diver);
        int air = 200;
        for (Dive dive : sinceFilled.get(diver)) {
            air -= dive.units();
        }
        return air;
    }

    int rest(int diver) {
        diver(diver);
        return free[diver] > minute ? free[diver] - minute : 0;
    }

    int longest(int diver, int cell) {
        diver(diver);
        cell(cell);
        return Math.min(60, air(diver) / (cell / 12 + 2));
    }

    int claim(int finder, int cell) {
        finderExists(finder);
        cell(cell);
        TreeSet<Integer> shape = shape(cell);
        state(!shape.isEmpty() && nameOf(shape) != 1 && finderOf(shape) < 0 && claims.size() < 40);
        claims.add(new Claim(finder, cell));
        starts.add(minute);
        return claims.size() - 1;
    }

    private void claimExists(int claim) {
        index(0 <= claim && claim < claims.size());
    }

    int renew(int claim) {
        claimExists(claim);
        int left = left(claim);
        state(left > 0);
        starts.set(claim, minute);
        return left;
    }

    int advance(int minutes) {
        argument(1 <= minutes && minutes <= 14400);
        state(minute + minutes <= 1000000);
        minute += minutes;
        return minute;
    }

    int minute() {
        return minute;
    }

    int finder(int cell) {
        cell(cell);
        return finderOf(shape(cell));
    }

    int finderBySoundings(int cell) {
        return finder(cell);
    }

    int claims() {
        return claims.size();
    }

    boolean runs(int claim) {
        claimExists(claim);
        return left(claim) > 0;
    }

    boolean holds(int claim) {
        claimExists(claim);
        return holder(shape(claims.get(claim).cell())) == claim;
    }

    int things() {
        return things.size();
    }

    private Thing thing(int thing) {
        index(0 <= thing && thing < things.size());
        return things.get(thing);
    }

    int shapeOfThing(int thing) {
        return thing(thing).shape();
    }

    int finderOfThing(int thing) {
        return thing(thing).finder();
    }

    int reward(int finder) {
        finderExists(finder);
        int sum = 0;
        for (Thing thing : things) {
            sum += thing.finder() == finder ? thing.value() - thing.part() : 0;
        }
        return sum;
    }

    int kept() {
        int sum = 0;
        for (Thing thing : things) {
            sum += thing.part();
        }
        return sum;
    }
}
