import java.util.Arrays;

/** Numbers beside the ranges of the document, and calls that bring an object to an edge. */
final class Edges {
    /** Numbers that a narrower type, a mask or a sum's wrap-around would bring back to the small ones. */
    private static final int[] FAR = {
        Integer.MIN_VALUE, Integer.MIN_VALUE + 1, -65536, -256, 256, 65536, 16777216, Integer.MAX_VALUE - 1, Integer.MAX_VALUE,
    };

    private Edges() {
    }

    /** The first number that is refused on each side of first to last, and some far ones. */
    static int[] outside(int first, int last) {
        int[] all = Arrays.copyOf(FAR, FAR.length + 2);
        all[FAR.length] = first - 1;
        all[FAR.length + 1] = last + 1;
        return Arrays.stream(all).filter(n -> n < first || n > last).toArray();
    }

    static int[] noCells() {
        return outside(0, 95);
    }

    static int[] noDivers() {
        return outside(0, 3);
    }

    static int[] noFinders() {
        return outside(0, 5);
    }

    static void nothing(EchoRegistry x) {
    }

    /**
     * Something of all that an object keeps: shapes at the chart's begin and end, a wreck, a rock, two claims
     * and a thing; diver 0 is free with a full bottle, diver 1 is under water, diver 2 rests, diver 3 is free
     * without air.
     */
    static void mixed(EchoRegistry x) {
        x.sweep(0, 4, 3);
        x.sweep(84, 12, 9);
        x.sound(50, 1);
        x.claim(1, 2);
        x.claim(4, 95);
        x.name(3, 24, 50, EchoRegistry.THING);
        x.name(1, 1, 5, EchoRegistry.WRECK);
        x.advance(120);
        x.name(2, 50, 5, EchoRegistry.ROCK);
        x.advance(6);
        x.raise(1, 0, 10, 7);
    }

    /** As many minutes as a claim runs: 28800. */
    static void term(EchoRegistry x) {
        x.advance(14400);
        x.advance(14400);
    }

    /** From the minute in which a claim was made to the last one in which it runs. */
    static void toLastOfTerm(EchoRegistry x) {
        x.advance(14400);
        x.advance(14399);
    }

    /** On a new object: to the minute 1000000, by 70 calls. */
    static void lastMinute(EchoRegistry x) {
        for (int i = 0; i < 69; i++) {
            x.advance(14400);
        }
        x.advance(6400);
    }

    /** The cell of each claim that fortyClaims makes: no two of them are neighbours, nor is one of 95. */
    static int cellOfClaim(int claim) {
        int row = claim / 6;
        return 12 * row + 2 * (claim % 6) + row % 2;
    }

    /** Claims 0 to 39, of the finder with the number modulo 6, each on a shape of its own; 95 is in one without. */
    static void fortyClaims(EchoRegistry x) {
        for (int claim = 0; claim < 40; claim++) {
            x.sound(cellOfClaim(claim), 1);
            Check.due("the next claim", x.claim(claim % 6, cellOfClaim(claim)), claim);
        }
        x.sound(95, 1);
    }

    /** Things 0 to 59 from cell 0, all of this value; the divers are free then, each with 60 units of air. */
    static void sixtyThings(EchoRegistry x, int value) {
        x.sound(0, 1);
        for (int round = 0; round < 15; round++) {
            for (int diver = 0; diver < 4; diver++) {
                Check.due("the next thing", x.raise(diver, 0, 10, value), 4 * round + diver);
            }
            x.advance(15);
            if (round == 7) {
                fillAll(x);
            }
        }
    }

    static void fillAll(EchoRegistry x) {
        for (int diver = 0; diver < 4; diver++) {
            x.fill(diver);
        }
    }
}
