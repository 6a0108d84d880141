/** Promises 1 to 9: a new object, soundings and shapes. */
public final class ShapesTest {
    public static void main(String[] args) {
        promise1NewObject();
        promise2Sound();
        promise3Sweep();
        promise4Shapes();
        promise5ShapeOf();
        promise6Size();
        promise7Top();
        promise8NameOf();
        promise8NameOfLastMark();
        promise9TitleAt();
        promise9TitleOfManySigns();
        Check.end("ShapesTest");
    }

    private static void promise1NewObject() {
        EchoRegistry x = new EchoRegistry();
        Check.due("shapes()", x.shapes(), 0);
        Check.due("minute()", x.minute(), 0);
        Check.due("claims()", x.claims(), 0);
        Check.due("things()", x.things(), 0);
        Check.due("kept()", x.kept(), 0);
        for (int diver = 0; diver < 4; diver++) {
            Check.due("air of " + diver, x.air(diver), 200);
            Check.due("rest of " + diver, x.rest(diver), 0);
            Check.due("fill of " + diver, x.fill(diver), 0);
        }
        for (int finder = 0; finder < 6; finder++) {
            Check.due("reward of " + finder, x.reward(finder), 0);
        }
        for (int cell = 0; cell < 96; cell++) {
            Check.due("shapeOf " + cell, x.shapeOf(cell), EchoRegistry.NONE);
            Check.due("height of " + cell, x.sound(cell, 1), 0);
        }
        Check.due("name without marks", x.nameOf(0), EchoRegistry.NO_NAME);
        Check.due("finder without claims", x.finder(0), EchoRegistry.NONE);
        Check.due("shapes of another object", new EchoRegistry().shapes(), 0);
    }

    private static void promise2Sound() {
        EchoRegistry x = new EchoRegistry();
        Check.due("first sounding", x.sound(0, 9), 0);
        Check.due("second sounding", x.sound(0, 3), 9);
        Check.due("third sounding", x.sound(0, 0), 3);
        Check.due("fourth sounding", x.sound(0, 0), 0);
        Check.due("last cell", x.sound(95, 1), 0);
        Check.due("last cell again", x.sound(95, 1), 1);
        Check.due("only that cell", x.sound(94, 0), 0);
    }

    private static void promise3Sweep() {
        EchoRegistry x = new EchoRegistry();
        Check.due("a whole row", x.sweep(12, 12, 2), 1);
        Check.due("its size", x.size(12), 12);
        Check.due("not the row before", x.shapeOf(11), EchoRegistry.NONE);
        Check.due("not the row behind", x.shapeOf(24), EchoRegistry.NONE);
        Check.due("a gap of one", x.sweep(15, 1, 0), 2);
        Check.due("a gap of two more", x.sweep(18, 2, 0), 3);
        Check.due("only three gaps", x.shapeOf(17), 16);
        Check.due("behind the gap", x.shapeOf(20), 20);
        Check.due("the height", x.sound(23, 2), 2);
        Check.due("the last of a row", x.sweep(95, 1, 9), 4);
        Check.due("the same again", x.sweep(95, 1, 9), 4);
        Check.due("all gone", x.sweep(12, 12, 0), 1);
    }

    private static void promise4Shapes() {
        EchoRegistry x = new EchoRegistry();
        x.sound(0, 1);
        Check.due("one", x.shapes(), 1);
        x.sound(13, 1);
        Check.due("corners do not join", x.shapes(), 2);
        x.sound(1, 9);
        Check.due("sides join, at any height", x.shapes(), 1);
        x.sound(11, 1);
        x.sound(12, 0);
        Check.due("a row's end", x.shapes(), 2);
        x.sound(24, 1);
        Check.due("a row's begin", x.shapes(), 3);
        x.sound(12, 1);
        Check.due("above and below", x.shapes(), 2);
        x.sound(1, 0);
        Check.due("a ring opened", x.shapes(), 2);
        x.sound(12, 0);
        Check.due("parted into three", x.shapes(), 4);
        checkerboard();
    }

    private static void checkerboard() {
        EchoRegistry x = new EchoRegistry();
        for (int cell = 0; cell < 96; cell++) {
            if ((cell / 12 + cell) % 2 == 0) {
                x.sound(cell, 1 + cell % 9);
            }
        }
        Check.due("the most shapes", x.shapes(), 48);
        for (int row = 0; row < 8; row++) {
            x.sweep(12 * row, 12, 5);
        }
        Check.due("the whole chart", x.shapes(), 1);
        Check.due("its size", x.size(95), 96);
        Check.due("its lowest cell", x.shapeOf(95), 0);
    }

    private static void promise5ShapeOf() {
        EchoRegistry x = new EchoRegistry();
        x.sound(95, 1);
        Check.due("alone", x.shapeOf(95), 95);
        x.sound(83, 1);
        Check.due("joined upwards", x.shapeOf(95), 83);
        Check.due("beside", x.shapeOf(94), EchoRegistry.NONE);
        x.sound(11, 1);
        x.sound(12, 1);
        Check.due("a row's end is no neighbour", x.shapeOf(12), 12);
        Check.due("nor its begin", x.shapeOf(11), 11);
        upwards();
        spiral();
    }

    /** From the lowest cell down, along, and up again. */
    private static void upwards() {
        EchoRegistry x = new EchoRegistry();
        x.sweep(12, 3, 1);
        x.sound(0, 1);
        x.sound(2, 1);
        Check.due("the first row's end of the way", x.shapeOf(2), 0);
        Check.due("one shape", x.shapes(), 1);
        x.sound(13, 0);
        Check.due("the way cut", x.shapeOf(14), 2);
    }

    /** A way to and fro over the chart, by which the lowest cell is far from the last. */
    private static void spiral() {
        EchoRegistry x = new EchoRegistry();
        for (int row = 0; row < 8; row += 2) {
            x.sweep(12 * row, 12, 1);
        }
        x.sound(23, 1);
        x.sound(36, 1);
        x.sound(71, 1);
        for (int cell = 72; cell < 84; cell++) {
            Check.due("the way of " + cell, x.shapeOf(cell), 0);
        }
        Check.due("a cell beside the way", x.shapeOf(84), EchoRegistry.NONE);
        x.sound(36, 0);
        Check.due("the way cut", x.shapeOf(83), 48);
        Check.due("the way ahead of the cut", x.shapeOf(35), 0);
        x.sound(0, 0);
        Check.due("without its lowest cell", x.shapeOf(35), 1);
    }

    private static void promise6Size() {
        EchoRegistry x = new EchoRegistry();
        Check.due("in none", x.size(5), 0);
        x.sweep(0, 3, 1);
        x.sweep(4, 2, 1);
        Check.due("three", x.size(1), 3);
        Check.due("two", x.size(5), 2);
        Check.due("in none beside shapes", x.size(3), 0);
        x.sound(3, 1);
        Check.due("joined", x.size(0), 6);
        x.sound(15, 1);
        Check.due("and one below", x.size(15), 7);
        x.sound(1, 0);
        Check.due("parted", x.size(0), 1);
        Check.due("the other part", x.size(2), 5);
    }

    private static void promise7Top() {
        EchoRegistry x = new EchoRegistry();
        Check.due("in none", x.top(0), 0);
        x.sweep(0, 3, 4);
        x.sweep(4, 2, 7);
        Check.due("four", x.top(0), 4);
        Check.due("seven", x.top(4), 7);
        Check.due("in none beside shapes", x.top(3), 0);
        x.sound(3, 1);
        Check.due("the greatest of the joined", x.top(0), 7);
        x.sweep(4, 2, 2);
        Check.due("lowered", x.top(5), 4);
        x.sound(0, 9);
        Check.due("heightened", x.top(5), 9);
    }

    private static void promise8NameOf() {
        EchoRegistry x = new EchoRegistry();
        Check.due("in none", x.nameOf(0), EchoRegistry.NO_NAME);
        x.name(0, 0, 5, EchoRegistry.WRECK);
        Check.due("a mark in no shape", x.nameOf(0), EchoRegistry.NO_NAME);
        x.sweep(0, 2, 1);
        Check.due("the mark stays", x.nameOf(1), EchoRegistry.WRECK);
        Check.due("not beside", x.nameOf(2), EchoRegistry.NO_NAME);
        x.sound(4, 1);
        Check.due("a shape without marks", x.nameOf(4), EchoRegistry.NO_NAME);
        x.sound(0, 0);
        Check.due("the rest of the shape has none", x.nameOf(1), EchoRegistry.NO_NAME);
        x.sound(0, 9);
        Check.due("the mark stays again", x.nameOf(1), EchoRegistry.WRECK);
    }

    private static void promise8NameOfLastMark() {
        EchoRegistry x = new EchoRegistry();
        x.sweep(0, 5, 1);
        x.name(0, 4, 5, EchoRegistry.ROCK);
        x.name(1, 0, 5, EchoRegistry.THING);
        Check.due("the last mark of all", x.nameOf(2), EchoRegistry.THING);
        x.sound(2, 0);
        Check.due("its part", x.nameOf(1), EchoRegistry.THING);
        Check.due("the other part", x.nameOf(3), EchoRegistry.ROCK);
        x.name(2, 4, 5, EchoRegistry.WRECK);
        x.sound(2, 1);
        Check.due("in place of one, and laid last", x.nameOf(0), EchoRegistry.WRECK);
        x.sound(4, 0);
        Check.due("without the last one", x.nameOf(3), EchoRegistry.THING);
    }

    private static void promise9TitleAt() {
        EchoRegistry x = new EchoRegistry();
        Check.title(x, 0, "");
        x.sound(0, 1);
        Check.title(x, 0, "N0x1");
        x.claim(5, 0);
        Check.title(x, 0, "N0x1f5");
        x.name(0, 0, 5, EchoRegistry.WRECK);
        Check.title(x, 0, "W0x1f5");
        x.name(1, 0, 5, EchoRegistry.THING);
        Check.title(x, 0, "T0x1f5");
        x.name(2, 0, 5, EchoRegistry.ROCK);
        Check.title(x, 0, "R0x1");
        x.sound(0, 0);
        Check.title(x, 0, "");
    }

    private static void promise9TitleOfManySigns() {
        EchoRegistry x = new EchoRegistry();
        x.sweep(84, 12, 1);
        x.claim(0, 95);
        Check.title(x, 90, "N84x12f0");
        Check.title(x, 0, "");
        x.advance(14400);
        x.advance(14400);
        Check.title(x, 90, "N84x12");
    }
}
