import java.util.function.Supplier;

/**
 * What can be seen of an object, as a text. Looking uses an object up, so that each part is told of an object
 * of its own, made anew: a part takes fewer than 300 calls, and up to 200 can stand ahead of it (the document
 * promises nothing behind the 512th).
 */
final class Snapshot {
    private static final int CELLS = 96;
    private static final int COLUMNS = 12;
    private static final int DIVERS = 4;
    private static final int FINDERS = 6;

    private Snapshot() {
    }

    static String of(Supplier<EchoRegistry> maker) {
        StringBuilder text = new StringBuilder();
        EchoRegistry first = maker.get();
        tellDivers(first, text);
        tellThings(first, text);
        tellClaims(first, text);
        tellShapes(maker.get(), text);
        tellHeightsAndMarks(maker.get(), text, 0);
        tellHeightsAndMarks(maker.get(), text, 1);
        return text.toString();
    }

    private static void tellDivers(EchoRegistry registry, StringBuilder text) {
        text.append("minute ").append(registry.minute());
        for (int diver = 0; diver < DIVERS; diver++) {
            text.append(" diver ").append(registry.air(diver)).append(' ').append(registry.rest(diver));
        }
    }

    private static void tellThings(EchoRegistry registry, StringBuilder text) {
        int things = registry.things();
        text.append(" things ").append(things).append(" kept ").append(registry.kept());
        for (int thing = 0; thing < things; thing++) {
            text.append(' ').append(registry.shapeOfThing(thing)).append('f').append(registry.finderOfThing(thing));
        }
        for (int finder = 0; finder < FINDERS; finder++) {
            text.append(" reward ").append(registry.reward(finder));
        }
    }

    private static void tellClaims(EchoRegistry registry, StringBuilder text) {
        int claims = registry.claims();
        text.append(" claims ").append(claims);
        for (int claim = 0; claim < claims; claim++) {
            text.append(registry.holds(claim) ? " holds " : " ");
            text.append(registry.runs(claim) ? registry.renew(claim) : 0);
        }
    }

    private static void tellShapes(EchoRegistry registry, StringBuilder text) {
        text.append(" shapes ").append(registry.shapes());
        for (int cell = 0; cell < CELLS; cell++) {
            int shape = registry.shapeOf(cell);
            text.append(' ').append(shape);
            if (shape == cell) {
                text.append('x').append(registry.size(cell)).append('t').append(registry.top(cell));
                text.append('n').append(registry.nameOf(cell)).append('f').append(registry.finder(cell));
            }
        }
    }

    /** Makes a shape of each second cell alone, so that it has the name of its own mark. */
    private static void tellHeightsAndMarks(EchoRegistry registry, StringBuilder text, int odd) {
        text.append(" heights");
        for (int cell = 0; cell < CELLS; cell++) {
            text.append(' ').append(registry.sound(cell, isSecond(cell, odd) ? 1 : 0));
        }
        text.append(" marks");
        for (int cell = 0; cell < CELLS; cell++) {
            if (isSecond(cell, odd)) {
                text.append(' ').append(registry.nameOf(cell));
            }
        }
    }

    private static boolean isSecond(int cell, int odd) {
        return (cell / COLUMNS + cell) % 2 == odd;
    }
}
