/** Promises 1 to 9 at their edges: a new object, soundings, shapes and titles. */
public final class ShapesEdgesTest {
    private static final int NONE = EchoRegistry.NONE;
    private static final int NO_NAME = EchoRegistry.NO_NAME;

    public static void main(String[] args) {
        promise1NoHeightsAndNoMarks();
        promise1NoClaimsAndNoThings();
        promise1DiversAreFreeWithFullBottles();
        promise1ObjectsAreApart();
        promise2FirstAndLastHeight();
        promise2EveryCell();
        promise2HeightAboveZeroIsAShape();
        promise2Refuses();
        promise3FewestAndMost();
        promise3FirstAndLastHeight();
        promise3AnswersNoneAndTheMost();
        promise3Refuses();
        promise3RefusesInOrder();
        promise4Neighbours();
        promise4NoneAndTheMost();
        promise5EachCellAloneAndAll();
        promise5WithoutItsLowest();
        promise6NoneOneAndAll();
        promise7LeastAndGreatest();
        promise8EachCellAndName();
        promise8LastOfManyMarks();
        promise9FirstAndLastPlace();
        promise9ShortestAndLongest();
        promise9NumbersOfMoreDigits();
        promise9FinderComesAndGoes();
        promise9Refuses();
        promises5To9NoSuchCell();
        Check.end("ShapesEdgesTest");
    }

    private static void promise1NoHeightsAndNoMarks() {
        EchoRegistry x = new EchoRegistry();
        Check.due("no shapes", x.shapes(), 0);
        for (int cell = 0; cell < 96; cell++) {
            Check.due("no height at " + cell, x.sound(cell, 0), 0);
            Check.due("no shape at " + cell, x.shapeOf(cell), NONE);
        }
        for (int cell = 0; cell < 96; cell++) {
            EchoRegistry one = new EchoRegistry();
            one.sound(cell, 1);
            Check.due("no mark at " + cell, one.nameOf(cell), NO_NAME);
        }
    }

    private static void promise1NoClaimsAndNoThings() {
        EchoRegistry x = new EchoRegistry();
        Check.due("no claims", x.claims(), 0);
        Check.due("no things", x.things(), 0);
        Check.due("nothing kept", x.kept(), 0);
        Check.due("the minute 0", x.minute(), 0);
        for (int finder = 0; finder < 6; finder++) {
            Check.due("no reward of " + finder, x.reward(finder), 0);
        }
        for (int cell = 0; cell < 96; cell++) {
            Check.finder(x, cell, NONE);
        }
        Check.noSuch("renew 0 without claims", Edges::nothing, y -> y.renew(0));
        Check.noSuch("runs 0 without claims", Edges::nothing, y -> y.runs(0));
        Check.noSuch("holds 0 without claims", Edges::nothing, y -> y.holds(0));
        Check.noSuch("shapeOfThing 0 without things", Edges::nothing, y -> y.shapeOfThing(0));
        Check.noSuch("finderOfThing 0 without things", Edges::nothing, y -> y.finderOfThing(0));
    }

    private static void promise1DiversAreFreeWithFullBottles() {
        EchoRegistry x = new EchoRegistry();
        for (int diver = 0; diver < 4; diver++) {
            Check.due("free", x.rest(diver), 0);
            Check.due("full", x.air(diver), 200);
            Check.due("nothing to fill", x.fill(diver), 0);
            Check.due("dives at once, with all of the air", x.name(diver, 24, 50, EchoRegistry.THING), NO_NAME);
            Check.due("and has none behind it", x.air(diver), 0);
        }
    }

    private static void promise1ObjectsAreApart() {
        String fresh = Snapshot.of(EchoRegistry::new);
        EchoRegistry used = Check.made(Edges::mixed);
        Check.same("a new object behind a used one", Snapshot.of(EchoRegistry::new), fresh);
        EchoRegistry other = new EchoRegistry();
        other.sweep(60, 12, 8);
        Check.due("the used one", used.shapes(), 3);
        Check.due("the other one", other.shapes(), 1);
        Check.title(used, 0, "W0x4f1");
        Check.title(other, 60, "N60x12");
        Check.title(used, 60, "");
    }

    private static void promise2FirstAndLastHeight() {
        for (int cell : new int[] {0, 11, 12, 84, 95}) {
            EchoRegistry x = new EchoRegistry();
            for (int height = 0; height <= 9; height++) {
                Check.due("height before at " + cell, x.sound(cell, height), Math.max(0, height - 1));
            }
            Check.due("the greatest again", x.sound(cell, 9), 9);
            Check.due("none in place of the greatest", x.sound(cell, 0), 9);
            Check.due("none in place of none", x.sound(cell, 0), 0);
            Check.due("no shape is left", x.shapes(), 0);
        }
    }

    private static void promise2EveryCell() {
        EchoRegistry x = new EchoRegistry();
        for (int cell = 0; cell < 96; cell++) {
            Check.due("the first of " + cell, x.sound(cell, 7 * cell % 10), 0);
        }
        for (int cell = 95; cell >= 0; cell--) {
            Check.due("the second of " + cell, x.sound(cell, 3 * cell % 10), 7 * cell % 10);
        }
        for (int cell = 0; cell < 96; cell++) {
            Check.due("the third of " + cell, x.sound(cell, 0), 3 * cell % 10);
        }
    }

    private static void promise2HeightAboveZeroIsAShape() {
        EchoRegistry x = new EchoRegistry();
        x.sound(40, 0);
        Check.due("height 0 is in no shape", x.shapeOf(40), NONE);
        x.sound(40, 1);
        Check.due("height 1 is in one", x.shapeOf(40), 40);
        x.sound(42, 9);
        x.sound(41, 1);
        Check.due("height 1 joins", x.shapeOf(42), 40);
        x.sound(41, 0);
        Check.due("height 0 parts", x.shapeOf(42), 42);
    }

    private static void promise2Refuses() {
        for (int cell : Edges.noCells()) {
            Check.noSuch("sound at " + cell, Edges::mixed, x -> x.sound(cell, 5));
            Check.noSuch("sound 10 at " + cell, Edges::mixed, x -> x.sound(cell, 10));
            Check.noSuch("sound -1 at " + cell, Edges::mixed, x -> x.sound(cell, -1));
        }
        for (int height : Edges.outside(0, 9)) {
            Check.outOfRange("sound " + height + " at 0", Edges::mixed, x -> x.sound(0, height));
            Check.outOfRange("sound " + height + " at 95", Edges::mixed, x -> x.sound(95, height));
            Check.outOfRange("sound " + height + " in no shape", Edges::mixed, x -> x.sound(40, height));
        }
    }

    private static int left(int cell) {
        return 12 - cell % 12;
    }

    private static void promise3FewestAndMost() {
        for (int cell = 0; cell < 96; cell++) {
            for (int many : new int[] {1, left(cell)}) {
                EchoRegistry x = new EchoRegistry();
                Check.due("sweep of " + many + " from " + cell, x.sweep(cell, many, 1), 1);
                Check.due("its size", x.size(cell), many);
                Check.due("its lowest", x.shapeOf(cell + many - 1), cell);
            }
            int first = cell;
            Check.outOfRange("none from " + cell, Edges::mixed, x -> x.sweep(first, 0, 1));
            Check.outOfRange("one over the row's end from " + cell, Edges::mixed, x -> x.sweep(first, left(first) + 1, 1));
        }
    }

    private static void promise3FirstAndLastHeight() {
        EchoRegistry x = new EchoRegistry();
        for (int height = 9; height >= 0; height--) {
            Check.due("sweep with " + height, x.sweep(84, 12, height), height == 0 ? 0 : 1);
            Check.due("top of " + height, x.top(95), height);
            Check.due("the height of the first", x.sound(84, height), height);
            Check.due("the height of the last", x.sound(95, height), height);
        }
    }

    private static void promise3AnswersNoneAndTheMost() {
        EchoRegistry x = new EchoRegistry();
        Check.due("none on an empty chart", x.sweep(0, 12, 0), 0);
        int shapes = 0;
        for (int cell = 0; cell < 96; cell++) {
            if ((cell / 12 + cell) % 2 == 0) {
                shapes++;
                Check.due("sweep of one at " + cell, x.sweep(cell, 1, 1), shapes);
            }
        }
        Check.due("the most", shapes, 48);
        for (int row = 0; row < 8; row++) {
            x.sweep(12 * row, 12, 9);
        }
        Check.due("one of all", x.sweep(84, 12, 9), 1);
        for (int row = 1; row < 8; row += 2) {
            x.sweep(12 * row, 12, 0);
        }
        Check.due("four rows", x.sweep(84, 12, 0), 4);
    }

    private static void promise3Refuses() {
        for (int cell : Edges.noCells()) {
            Check.noSuch("sweep at " + cell, Edges::mixed, x -> x.sweep(cell, 1, 1));
        }
        for (int many : Edges.outside(1, 12)) {
            Check.outOfRange("sweep of " + many + " from 0", Edges::mixed, x -> x.sweep(0, many, 1));
            Check.outOfRange("sweep of " + many + " from 95", Edges::mixed, x -> x.sweep(95, many, 1));
        }
        for (int height : Edges.outside(0, 9)) {
            Check.outOfRange("sweep of one with " + height, Edges::mixed, x -> x.sweep(0, 1, height));
            Check.outOfRange("sweep of a row with " + height, Edges::mixed, x -> x.sweep(84, 12, height));
        }
        Check.outOfRange("both out of range", Edges::mixed, x -> x.sweep(0, 13, 10));
    }

    private static void promise3RefusesInOrder() {
        for (int cell : Edges.noCells()) {
            Check.noSuch("no cell ahead of many", Edges::mixed, x -> x.sweep(cell, 0, 1));
            Check.noSuch("no cell ahead of too many", Edges::mixed, x -> x.sweep(cell, 13, 1));
            Check.noSuch("no cell ahead of the height", Edges::mixed, x -> x.sweep(cell, 1, 10));
            Check.noSuch("no cell ahead of both", Edges::mixed, x -> x.sweep(cell, 0, -1));
        }
    }

    /** Each two cells of the chart: side by side in a row, or one above the other, and no others. */
    private static void promise4Neighbours() {
        for (int a = 0; a < 96; a++) {
            for (int b = a + 1; b < 96; b++) {
                boolean sides = a / 12 == b / 12 && b == a + 1;
                boolean above = b == a + 12;
                EchoRegistry x = new EchoRegistry();
                x.sound(b, 1);
                x.sound(a, 9);
                Check.due("shapes of " + a + " and " + b, x.shapes(), sides || above ? 1 : 2);
            }
        }
    }

    private static void promise4NoneAndTheMost() {
        EchoRegistry x = new EchoRegistry();
        int due = 0;
        for (int cell = 0; cell < 96; cell++) {
            if ((cell / 12 + cell) % 2 == 1) {
                x.sound(cell, 1);
                due++;
                Check.due("shapes", x.shapes(), due);
            }
        }
        Check.due("the most", x.shapes(), 48);
        for (int row = 0; row < 8; row++) {
            x.sweep(12 * row, 12, 1);
        }
        Check.due("the whole chart", x.shapes(), 1);
        for (int row = 0; row < 8; row++) {
            x.sweep(12 * row, 12, 0);
        }
        Check.due("none again", x.shapes(), 0);
    }

    private static void promise5EachCellAloneAndAll() {
        EchoRegistry x = new EchoRegistry();
        for (int cell = 0; cell < 96; cell++) {
            Check.due("in none", x.shapeOf(cell), NONE);
            x.sound(cell, 1);
            Check.due("alone at " + cell, x.shapeOf(cell), cell);
            x.sound(cell, 0);
        }
        for (int row = 0; row < 8; row++) {
            x.sweep(12 * row, 12, 1);
        }
        for (int cell = 0; cell < 96; cell++) {
            Check.due("in the shape of all", x.shapeOf(cell), 0);
        }
    }

    private static void promise5WithoutItsLowest() {
        EchoRegistry x = new EchoRegistry();
        for (int row = 0; row < 8; row++) {
            x.sweep(12 * row, 12, 1);
        }
        for (int cell = 0; cell < 95; cell++) {
            x.sound(cell, 0);
            Check.due("without the cells to " + cell, x.shapeOf(95), cell + 1);
            Check.due("the cell itself", x.shapeOf(cell), NONE);
        }
    }

    private static void promise6NoneOneAndAll() {
        EchoRegistry x = new EchoRegistry();
        for (int cell = 95; cell >= 0; cell--) {
            Check.due("in none at " + cell, x.size(cell), 0);
            x.sound(cell, 1);
            Check.due("the size with the cells from " + cell, x.size(cell), 96 - cell);
        }
        Check.due("all by the first", x.size(0), 96);
        Check.due("all by the last", x.size(95), 96);
        x.sound(95, 0);
        Check.due("all but one", x.size(94), 95);
        Check.due("the one", x.size(95), 0);
    }

    private static void promise7LeastAndGreatest() {
        for (int cell : new int[] {0, 95}) {
            EchoRegistry x = new EchoRegistry();
            for (int height = 0; height <= 9; height++) {
                x.sound(cell, height);
                Check.due("top of one cell", x.top(cell), height);
            }
        }
        EchoRegistry x = new EchoRegistry();
        for (int row = 0; row < 8; row++) {
            x.sweep(12 * row, 12, 1);
        }
        Check.due("the least of all", x.top(0), 1);
        x.sound(95, 9);
        Check.due("the greatest in the last cell", x.top(0), 9);
        x.sound(95, 1);
        x.sound(0, 9);
        Check.due("the greatest in the first cell", x.top(95), 9);
        x.sound(94, 0);
        x.sound(83, 0);
        Check.due("parted from the greatest", x.top(95), 1);
    }

    private static void promise8EachCellAndName() {
        for (int cell = 0; cell < 96; cell++) {
            int name = 1 + cell % 3;
            EchoRegistry x = new EchoRegistry();
            x.name(cell % 4, cell, 5, name);
            Check.due("a mark on " + cell + " in no shape", x.nameOf(cell), NO_NAME);
            x.sound(cell, 1);
            Check.due("the mark on " + cell, x.nameOf(cell), name);
            x.sound(cell, 0);
            Check.due("again in no shape", x.nameOf(cell), NO_NAME);
            for (int row = 0; row < 8; row++) {
                x.sweep(12 * row, 12, 1);
            }
            Check.due("of the whole chart by the first", x.nameOf(0), name);
            Check.due("of the whole chart by the last", x.nameOf(95), name);
        }
    }

    /** More marks than a small number could count: the last one of all has the name. */
    private static void promise8LastOfManyMarks() {
        EchoRegistry x = new EchoRegistry();
        x.sweep(0, 12, 1);
        for (int round = 0; round < 75; round++) {
            for (int diver = 0; diver < 4; diver++) {
                int turn = 4 * round + diver;
                Check.due("mark " + turn, x.name(diver, 5 * turn % 12, 5, 1 + turn % 3), 1 + turn % 3);
            }
            x.advance(7);
            if (round % 20 == 19) {
                Edges.fillAll(x);
            }
        }
        Check.due("mark 299 of all, on cell 7", x.nameOf(0), EchoRegistry.THING);
        x.sound(7, 0);
        Check.due("mark 298, on cell 2, in the part ahead", x.nameOf(0), EchoRegistry.WRECK);
        Check.due("mark 297, on cell 9, in the part behind", x.nameOf(11), EchoRegistry.ROCK);
    }

    private static void promise9FirstAndLastPlace() {
        EchoRegistry x = new EchoRegistry();
        Check.due("the first place in no shape", x.titleAt(0, 0), NONE);
        Check.due("the greatest place in no shape", x.titleAt(95, Integer.MAX_VALUE), NONE);
        x.sound(0, 1);
        Check.due("the first sign", x.titleAt(0, 0), 78);
        Check.due("the last sign", x.titleAt(0, 3), 49);
        Check.due("behind the last one", x.titleAt(0, 4), NONE);
        Check.due("at the greatest place", x.titleAt(0, Integer.MAX_VALUE), NONE);
        Check.due("a cell in none beside it", x.titleAt(1, 0), NONE);
        x.claim(0, 0);
        Check.due("f", x.titleAt(0, 4), 102);
        Check.due("the last sign of a claimed shape", x.titleAt(0, 5), 48);
        Check.due("behind the last one of a claimed shape", x.titleAt(0, 6), NONE);
        int[] signs = {82, 87, 84};
        for (int name = 1; name <= 3; name++) {
            x.name(name, 0, 5, name);
            Check.due("the sign of the name " + name, x.titleAt(0, 0), signs[name - 1]);
        }
    }

    private static void promise9ShortestAndLongest() {
        EchoRegistry x = new EchoRegistry();
        x.sound(9, 1);
        Check.title(x, 9, "N9x1");
        x.sweep(84, 12, 1);
        x.claim(5, 84);
        Check.title(x, 95, "N84x12f5");
        x.name(0, 95, 5, EchoRegistry.THING);
        Check.title(x, 84, "T84x12f5");
        x.name(1, 84, 5, EchoRegistry.WRECK);
        Check.title(x, 84, "W84x12f5");
        x.name(2, 90, 5, EchoRegistry.ROCK);
        Check.title(x, 84, "R84x12");
        Check.title(x, 83, "");
    }

    private static void promise9NumbersOfMoreDigits() {
        EchoRegistry x = new EchoRegistry();
        x.sound(10, 1);
        Check.title(x, 10, "N10x1");
        x.sound(95, 1);
        Check.title(x, 95, "N95x1");
        x.sweep(0, 9, 1);
        Check.title(x, 8, "N0x9");
        x.sound(9, 1);
        Check.title(x, 10, "N0x11");
        x.sound(10, 0);
        Check.title(x, 0, "N0x10");
        for (int row = 0; row < 8; row++) {
            x.sweep(12 * row, 12, 1);
        }
        Check.title(x, 95, "N0x96");
        x.claim(5, 95);
        Check.title(x, 0, "N0x96f5");
        x.sound(0, 0);
        Check.title(x, 1, "N1x95f5");
    }

    private static void promise9FinderComesAndGoes() {
        EchoRegistry x = new EchoRegistry();
        x.sweep(0, 3, 1);
        x.claim(0, 2);
        Edges.toLastOfTerm(x);
        Check.title(x, 0, "N0x3f0");
        x.advance(1);
        Check.title(x, 0, "N0x3");
        x.claim(5, 0);
        Check.title(x, 1, "N0x3f5");
        x.sound(1, 0);
        Check.title(x, 0, "N0x1f5");
        Check.title(x, 2, "N2x1");
        Check.title(x, 1, "");
    }

    private static void promise9Refuses() {
        for (int cell : Edges.noCells()) {
            Check.noSuch("titleAt " + cell, Edges::mixed, x -> x.titleAt(cell, 0));
            Check.noSuch("titleAt " + cell + ", and no place", Edges::mixed, x -> x.titleAt(cell, -1));
        }
        for (int place : new int[] {-1, -2, -256, Integer.MIN_VALUE, Integer.MIN_VALUE + 1}) {
            Check.noSuch("place " + place, Edges::mixed, x -> x.titleAt(0, place));
            Check.noSuch("place " + place + " at the last cell", Edges::mixed, x -> x.titleAt(95, place));
            Check.noSuch("place " + place + " in no shape", Edges::mixed, x -> x.titleAt(40, place));
        }
    }

    private static void promises5To9NoSuchCell() {
        for (int cell : Edges.noCells()) {
            Check.noSuch("shapeOf " + cell, Edges::mixed, x -> x.shapeOf(cell));
            Check.noSuch("size " + cell, Edges::mixed, x -> x.size(cell));
            Check.noSuch("top " + cell, Edges::mixed, x -> x.top(cell));
            Check.noSuch("nameOf " + cell, Edges::mixed, x -> x.nameOf(cell));
        }
        EchoRegistry x = Check.made(Edges::mixed);
        Check.due("the shape of the first cell", x.shapeOf(0), 0);
        Check.due("the shape of the last cell", x.shapeOf(95), 84);
        Check.due("the size of the first cell's", x.size(0), 4);
        Check.due("the size of the last cell's", x.size(95), 12);
        Check.due("the top of the first cell's", x.top(0), 3);
        Check.due("the top of the last cell's", x.top(95), 9);
        Check.due("the name of the first cell's", x.nameOf(0), EchoRegistry.WRECK);
        Check.due("the name of the last cell's", x.nameOf(95), NO_NAME);
    }
}
