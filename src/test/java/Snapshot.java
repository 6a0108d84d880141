/**
 * What can be seen of an object, as a text; the object is used up by it. It takes some 300 calls, and some
 * 400 with forty claims or sixty things, so that up to 100 can stand ahead of it: the document promises
 * nothing behind the 512th.
 */
final class Snapshot {
    private static final int CELLS = 96;
    private static final int DIVERS = 4;
    private static final int FINDERS = 6;
    /** Marks are looked for in the first two rows alone, to which the tests' dives go. */
    private static final int MARKED_CELLS = 24;

    private Snapshot() {
    }

    static String of(EchoRegistry registry) {
        StringBuilder text = new StringBuilder();
        tellDivers(registry, text);
        tellThings(registry, text);
        tellClaims(registry, text);
        tellShapes(registry, text);
        tellHeights(registry, text);
        tellMarks(registry, text, 0);
        tellMarks(registry, text, 1);
        return text.toString();
    }

    private static void tellDivers(EchoRegistry registry, StringBuilder text) {
        text.append("minute ").append(registry.minute());
        for (int diver = 0; diver < DIVERS; diver++) {
            text.append(" diver ").append(registry.air(diver)).append(' ').append(registry.rest(diver));
        }
    }

    private static void tellThings(EchoRegistry registry, StringBuilder text) {
        int things = registry.things();
        text.append(" things ").append(things).append(" kept ").append(registry.kept());
        for (int thing = 0; thing < things; thing++) {
            text.append(' ').append(registry.shapeOfThing(thing)).append('f').append(registry.finderOfThing(thing));
        }
        for (int finder = 0; finder < FINDERS; finder++) {
            text.append(" reward ").append(registry.reward(finder));
        }
    }

    private static void tellClaims(EchoRegistry registry, StringBuilder text) {
        int claims = registry.claims();
        text.append(" claims ").append(claims);
        for (int claim = 0; claim < claims; claim++) {
            boolean runs = registry.runs(claim);
            text.append(' ').append(runs ? registry.renew(claim) : 0);
        }
    }

    private static void tellShapes(EchoRegistry registry, StringBuilder text) {
        text.append(" shapes ").append(registry.shapes());
        for (int cell = 0; cell < CELLS; cell++) {
            int shape = registry.shapeOf(cell);
            text.append(' ').append(shape);
            if (shape == cell) {
                text.append('f').append(registry.finder(cell));
            }
        }
    }

    private static void tellHeights(EchoRegistry registry, StringBuilder text) {
        text.append(" heights");
        for (int cell = 0; cell < CELLS; cell++) {
            text.append(' ').append(registry.sound(cell, 0));
        }
    }

    /** Makes a shape of each second cell alone, so that it has the name of its own mark. */
    private static void tellMarks(EchoRegistry registry, StringBuilder text, int odd) {
        text.append(" marks");
        for (int cell = 0; cell < MARKED_CELLS; cell++) {
            if ((cell / 12 + cell) % 2 == odd) {
                registry.sound(cell, 1);
                text.append(' ').append(registry.nameOf(cell));
                registry.sound(cell, 0);
            }
        }
    }
}
