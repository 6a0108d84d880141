/** Promises 10 to 15 at their edges: namings, raisings, air and rests. */
public final class DiversEdgesTest {
    private static final int NO_NAME = EchoRegistry.NO_NAME;
    private static final int ROCK = EchoRegistry.ROCK;
    private static final int WRECK = EchoRegistry.WRECK;
    private static final int THING = EchoRegistry.THING;

    /** By rows: the longest dive with a full bottle, as far as 60 minutes. */
    private static final int[] LONGEST = {60, 60, 50, 40, 33, 28, 25, 22};
    /** By rows: the air behind the longest dive, and the minutes until the diver is free. */
    private static final int[] AIR_BEHIND_LONGEST = {80, 20, 0, 0, 2, 4, 0, 2};
    private static final int[] REST_BEHIND_LONGEST = {90, 120, 125, 120, 115, 112, 112, 110};
    /** By rows: the minutes until a diver is free behind dives of 5, 10 and 11 minutes. */
    private static final int[] REST_OF_5 = {7, 10, 12, 15, 17, 20, 22, 25};
    private static final int[] REST_OF_10 = {15, 20, 25, 30, 35, 40, 45, 50};
    private static final int[] REST_OF_11 = {16, 22, 27, 33, 38, 44, 49, 55};

    public static void main(String[] args) {
        promise10FirstAndLastOfEach();
        promise10EachRow();
        promise10LongestOfEachRow();
        promise10AirToTheLastUnit();
        promise10FreeFromTheMinute();
        promise10Answers();
        promise10LastMinuteOfAll();
        promise10Refuses();
        promise10RefusesInOrder();
        promise11FirstAndLastOfEach();
        promise11EachRow();
        promise11LongestOfEachRow();
        promise11AirToTheLastUnit();
        promise11FreeFromTheMinute();
        promise11ShapeAndRock();
        promise11SixtyThings();
        promise11Refuses();
        promise11RefusesInOrder();
        promise12FullAndEmpty();
        promise12FreeFromTheMinute();
        promise12Refuses();
        promise13FullAndEmpty();
        promise14FirstAndLastMinute();
        promise14NothingRefusedCounts();
        promise15SixtyAtMost();
        promise15NoneAndOne();
        promise15IsTheLongest();
        promises13To15Refuse();
        Check.end("DiversEdgesTest");
    }

    private static void promise10FirstAndLastOfEach() {
        for (int diver : new int[] {0, 3}) {
            for (int cell : new int[] {0, 11, 12, 23}) {
                for (int minutes : new int[] {5, 60}) {
                    for (int name : new int[] {ROCK, THING}) {
                        EchoRegistry x = new EchoRegistry();
                        x.sound(cell, 1);
                        Check.due("name by " + diver + " at " + cell, x.name(diver, cell, minutes, name), name);
                        Check.due("the mark of " + minutes + " minutes", x.nameOf(cell), name);
                    }
                }
            }
        }
        Check.due("the last cell", new EchoRegistry().name(3, 95, 5, THING), NO_NAME);
    }

    private static void promise10EachRow() {
        for (int row = 0; row < 8; row++) {
            EchoRegistry x = new EchoRegistry();
            x.name(0, 12 * row, 5, WRECK);
            x.name(3, 12 * row + 11, 5, WRECK);
            for (int diver : new int[] {0, 3}) {
                Check.due("air behind 5 minutes in row " + row, x.air(diver), 190 - 5 * row);
                Check.due("rest behind 5 minutes in row " + row, x.rest(diver), REST_OF_5[row]);
            }
            Check.due("air of another diver", x.air(1), 200);
            Check.due("rest of another diver", x.rest(2), 0);
        }
    }

    private static void promise10LongestOfEachRow() {
        for (int row = 0; row < 8; row++) {
            int cell = 12 * row + row;
            int longest = LONGEST[row];
            EchoRegistry x = new EchoRegistry();
            Check.due("the longest naming in row " + row, x.name(1, cell, longest, ROCK), NO_NAME);
            Check.due("the air behind it", x.air(1), AIR_BEHIND_LONGEST[row]);
            Check.due("the rest behind it", x.rest(1), REST_BEHIND_LONGEST[row]);
            if (row < 2) {
                Check.outOfRange("a minute more in row " + row, Edges::mixed, y -> y.name(0, cell, longest + 1, ROCK));
            } else {
                Check.notNow("a minute more in row " + row, Edges::mixed, y -> y.name(0, cell, longest + 1, ROCK));
                Check.notNow("60 minutes in row " + row, Edges::mixed, y -> y.name(0, cell, 60, ROCK));
            }
        }
    }

    /** Diver 0 free, with 14 units of air: 31 minutes in row 4 take 186. */
    private static void fourteenUnits(EchoRegistry x) {
        x.sweep(0, 12, 1);
        x.sound(12, 1);
        x.name(0, 48, 31, WRECK);
        x.advance(31 + 77);
    }

    private static void promise10AirToTheLastUnit() {
        EchoRegistry x = Check.made(DiversEdgesTest::fourteenUnits);
        Check.due("14 units", x.air(0), 14);
        Check.due("14 of 14 units", x.name(0, 0, 7, THING), THING);
        Check.due("none is left", x.air(0), 0);
        Check.notNow("15 of 14 units", DiversEdgesTest::fourteenUnits, y -> y.name(0, 12, 5, THING));
        Check.notNow("16 of 14 units", DiversEdgesTest::fourteenUnits, y -> y.name(0, 0, 8, THING));
        Check.notNow("10 of no units", DiversEdgesTest::withoutAir, y -> y.name(0, 0, 5, THING));
        Check.due("with a bottle that is filled", filledAgain().name(0, 24, 50, THING), NO_NAME);
    }

    /** Diver 0 free, without air; a shape in the first row. */
    private static void withoutAir(EchoRegistry x) {
        x.sweep(0, 12, 1);
        x.name(0, 24, 50, WRECK);
        x.advance(125);
    }

    private static EchoRegistry filledAgain() {
        EchoRegistry x = Check.made(DiversEdgesTest::withoutAir);
        x.fill(0);
        return x;
    }

    /** Diver 0 dives for 5 minutes to row 2, and rests for 7 behind that; then these minutes pass. */
    private static Check.Calls dived(int minutes) {
        return x -> {
            x.sweep(0, 3, 1);
            x.name(0, 24, 5, WRECK);
            if (minutes > 0) {
                x.advance(minutes);
            }
        };
    }

    private static void promise10FreeFromTheMinute() {
        for (int minutes : new int[] {0, 4, 5, 6, 11}) {
            Check.notNow("name " + minutes + " minutes behind a dive", dived(minutes), x -> x.name(0, 0, 5, ROCK));
        }
        Check.due("name 12 minutes behind it", Check.made(dived(12)).name(0, 0, 5, ROCK), ROCK);
        Check.due("another diver at once", Check.made(dived(0)).name(1, 0, 5, ROCK), ROCK);
    }

    private static void promise10Answers() {
        EchoRegistry x = new EchoRegistry();
        x.sweep(0, 3, 1);
        Check.due("in none, beside the shape", x.name(0, 3, 5, ROCK), NO_NAME);
        Check.due("the shape has none still", x.nameOf(0), NO_NAME);
        Check.due("in the shape", x.name(1, 0, 5, ROCK), ROCK);
        Check.due("in place of a mark", x.name(2, 0, 5, WRECK), WRECK);
        Check.due("the last of two cells", x.name(3, 2, 5, THING), THING);
        x.sound(3, 1);
        Check.due("an earlier mark that joins", x.nameOf(0), THING);
        x.advance(7);
        Check.due("on the same cell again, laid last", x.name(0, 3, 5, ROCK), ROCK);
        Check.due("for the whole shape", x.nameOf(0), ROCK);
        Check.due("a rock is named anew by its other end", x.name(1, 0, 5, WRECK), WRECK);
    }

    private static void promise10LastMinuteOfAll() {
        EchoRegistry x = Check.made(Edges::lastMinute);
        x.sound(0, 1);
        Check.due("name in the last minute", x.name(0, 0, 60, WRECK), WRECK);
        Check.due("air then", x.air(0), 80);
        Check.due("rest over the last minute", x.rest(0), 90);
        Check.due("raise in the last minute", x.raise(1, 0, 10, 4), 0);
        Check.due("the longest rest in the last minute", x.name(2, 24, 50, ROCK), NO_NAME);
        Check.due("it lasts", x.rest(2), 125);
    }

    private static void promise10Refuses() {
        for (int diver : Edges.noDivers()) {
            Check.noSuch("name by " + diver, Edges::mixed, x -> x.name(diver, 0, 5, ROCK));
        }
        for (int cell : Edges.noCells()) {
            Check.noSuch("name at " + cell, Edges::mixed, x -> x.name(0, cell, 5, ROCK));
        }
        for (int minutes : Edges.outside(5, 60)) {
            Check.outOfRange("name for " + minutes, Edges::mixed, x -> x.name(0, 0, minutes, ROCK));
            Check.outOfRange("name in row 7 for " + minutes, Edges::mixed, x -> x.name(0, 95, minutes, ROCK));
        }
        for (int name : Edges.outside(1, 3)) {
            Check.outOfRange("name as " + name, Edges::mixed, x -> x.name(0, 0, 5, name));
            Check.outOfRange("name in no shape as " + name, Edges::mixed, x -> x.name(0, 40, 5, name));
        }
        Check.notNow("name under water", Edges::mixed, x -> x.name(1, 0, 5, ROCK));
        Check.notNow("name while resting", Edges::mixed, x -> x.name(2, 0, 5, ROCK));
        Check.notNow("name without air", Edges::mixed, x -> x.name(3, 0, 5, ROCK));
        Check.notNow("name under water, with too little air", Edges::mixed, x -> x.name(1, 95, 60, ROCK));
    }

    private static void promise10RefusesInOrder() {
        for (int diver : new int[] {-1, 4}) {
            Check.noSuch("no diver, no cell", Edges::mixed, x -> x.name(diver, 96, 5, ROCK));
            Check.noSuch("no diver ahead of minutes", Edges::mixed, x -> x.name(diver, 0, 4, ROCK));
            Check.noSuch("no diver ahead of the name", Edges::mixed, x -> x.name(diver, 0, 5, 0));
            Check.noSuch("no diver ahead of all", Edges::mixed, x -> x.name(diver, 95, 61, 4));
            Check.noSuch("no diver ahead of the air", Edges::mixed, x -> x.name(diver, 95, 60, ROCK));
        }
        for (int cell : new int[] {-1, 96}) {
            Check.noSuch("no cell ahead of minutes", Edges::mixed, x -> x.name(0, cell, 61, ROCK));
            Check.noSuch("no cell ahead of the name", Edges::mixed, x -> x.name(0, cell, 5, 4));
            Check.noSuch("no cell ahead of a diver under water", Edges::mixed, x -> x.name(1, cell, 5, ROCK));
            Check.noSuch("no cell ahead of a diver at rest", Edges::mixed, x -> x.name(2, cell, 5, ROCK));
            Check.noSuch("no cell ahead of a diver without air", Edges::mixed, x -> x.name(3, cell, 60, ROCK));
            Check.noSuch("no cell ahead of all", Edges::mixed, x -> x.name(1, cell, 4, 0));
        }
        for (int diver = 1; diver < 4; diver++) {
            int asked = diver;
            Check.outOfRange("too few minutes ahead of diver " + diver, Edges::mixed, x -> x.name(asked, 0, 4, ROCK));
            Check.outOfRange("too many minutes ahead of diver " + diver, Edges::mixed, x -> x.name(asked, 0, 61, ROCK));
            Check.outOfRange("no name ahead of diver " + diver, Edges::mixed, x -> x.name(asked, 0, 5, 0));
            Check.outOfRange("a name behind the last ahead of diver " + diver, Edges::mixed, x -> x.name(asked, 0, 5, 4));
        }
        Check.outOfRange("minutes ahead of too little air", Edges::mixed, x -> x.name(0, 95, 61, ROCK));
        Check.outOfRange("the name ahead of too little air", Edges::mixed, x -> x.name(0, 95, 60, 0));
        Check.outOfRange("both ahead of too little air", Edges::mixed, x -> x.name(0, 95, 61, 4));
    }

    private static void promise11FirstAndLastOfEach() {
        for (int diver : new int[] {0, 3}) {
            for (int cell : new int[] {0, 11, 12, 23}) {
                for (int minutes : new int[] {10, 60}) {
                    for (int value : new int[] {1, 100000}) {
                        EchoRegistry x = new EchoRegistry();
                        x.sound(cell, 1);
                        Check.due("raise by " + diver + " at " + cell, x.raise(diver, cell, minutes, value), 0);
                        Check.due("all of " + value, x.kept(), value);
                    }
                }
            }
        }
        EchoRegistry x = new EchoRegistry();
        x.sound(95, 1);
        Check.due("the last cell", x.raise(3, 95, 10, 1), 0);
    }

    private static void promise11EachRow() {
        for (int row = 0; row < 8; row++) {
            EchoRegistry x = new EchoRegistry();
            x.sweep(12 * row, 12, 1);
            x.raise(0, 12 * row, 10, 1);
            x.raise(3, 12 * row + 11, 11, 1);
            Check.due("air behind 10 minutes in row " + row, x.air(0), 180 - 10 * row);
            Check.due("rest behind 10 minutes in row " + row, x.rest(0), REST_OF_10[row]);
            Check.due("air behind 11 minutes in row " + row, x.air(3), 178 - 11 * row);
            Check.due("rest behind 11 minutes in row " + row, x.rest(3), REST_OF_11[row]);
            Check.due("air of another diver", x.air(1), 200);
            Check.due("rest of another diver", x.rest(2), 0);
            Check.due("the shape stays", x.size(12 * row), 12);
            Check.due("without a name", x.nameOf(12 * row), NO_NAME);
        }
    }

    private static void promise11LongestOfEachRow() {
        for (int row = 0; row < 8; row++) {
            int cell = 12 * row + row;
            int longest = LONGEST[row];
            Check.Calls before = x -> x.sound(cell, 1);
            EchoRegistry x = Check.made(before);
            Check.due("the longest raising in row " + row, x.raise(1, cell, longest, 9), 0);
            Check.due("the air behind it", x.air(1), AIR_BEHIND_LONGEST[row]);
            Check.due("the rest behind it", x.rest(1), REST_BEHIND_LONGEST[row]);
            if (row < 2) {
                Check.outOfRange("a minute more in row " + row, before, y -> y.raise(0, cell, longest + 1, 9));
            } else {
                Check.notNow("a minute more in row " + row, before, y -> y.raise(0, cell, longest + 1, 9));
                Check.notNow("60 minutes in row " + row, before, y -> y.raise(0, cell, 60, 9));
            }
        }
    }

    /** Diver 0 free, with 32 units of air: 28 minutes in row 4 take 168. */
    private static void thirtyTwoUnits(EchoRegistry x) {
        x.sweep(0, 12, 1);
        x.sound(12, 1);
        x.name(0, 48, 28, WRECK);
        x.advance(28 + 70);
    }

    private static void promise11AirToTheLastUnit() {
        EchoRegistry x = Check.made(DiversEdgesTest::thirtyTwoUnits);
        Check.due("32 units", x.air(0), 32);
        Check.due("32 of 32 units", x.raise(0, 0, 16, 1), 0);
        Check.due("none is left", x.air(0), 0);
        Check.notNow("33 of 32 units", DiversEdgesTest::thirtyTwoUnits, y -> y.raise(0, 12, 11, 1));
        Check.notNow("34 of 32 units", DiversEdgesTest::thirtyTwoUnits, y -> y.raise(0, 0, 17, 1));
        Check.notNow("20 of no units", DiversEdgesTest::withoutAir, y -> y.raise(0, 0, 10, 1));
        Check.due("with a bottle that is filled", filledAgain().raise(0, 0, 60, 1), 0);
    }

    private static void promise11FreeFromTheMinute() {
        for (int minutes : new int[] {0, 4, 5, 6, 11}) {
            Check.notNow("raise " + minutes + " minutes behind a dive", dived(minutes), x -> x.raise(0, 0, 10, 1));
        }
        Check.due("raise 12 minutes behind it", Check.made(dived(12)).raise(0, 0, 10, 1), 0);
        Check.due("another diver at once", Check.made(dived(0)).raise(1, 0, 10, 1), 0);
        Check.Calls raised = x -> {
            x.sound(0, 1);
            x.raise(0, 0, 11, 1);
            x.advance(15);
        };
        Check.notNow("in the last minute behind a raising", raised, x -> x.raise(0, 0, 10, 1));
        EchoRegistry x = Check.made(raised);
        x.advance(1);
        Check.due("when the rest is over", x.raise(0, 0, 10, 1), 1);
    }

    /** A rock on the cells 0 to 2, named by the mark on 2, laid behind a wreck's on 0; a claim on 0. */
    private static void rock(EchoRegistry x) {
        x.sweep(0, 3, 1);
        x.claim(0, 0);
        x.name(1, 0, 5, WRECK);
        x.name(2, 2, 5, ROCK);
    }

    private static void promise11ShapeAndRock() {
        Check.notNow("raise beside a shape", DiversEdgesTest::rock, x -> x.raise(0, 3, 10, 1));
        for (int cell = 0; cell < 3; cell++) {
            int asked = cell;
            Check.notNow("raise from the rock's cell " + cell, DiversEdgesTest::rock, x -> x.raise(0, asked, 10, 1));
        }
        EchoRegistry x = Check.made(DiversEdgesTest::rock);
        x.sound(1, 0);
        Check.due("from the part that is a wreck", x.raise(0, 0, 10, 1), 0);
        x.sound(1, 9);
        x.name(3, 1, 5, THING);
        x.advance(15);
        Check.due("from what was a rock", x.raise(0, 2, 10, 1), 1);
        Check.Calls noShapeMarked = y -> y.name(1, 0, 5, THING);
        Check.notNow("raise from a marked cell in no shape", noShapeMarked, y -> y.raise(0, 0, 10, 1));
    }

    private static void sixty(EchoRegistry x) {
        Edges.sixtyThings(x, 3);
    }

    private static void promise11SixtyThings() {
        for (int diver = 0; diver < 4; diver++) {
            int asked = diver;
            Check.notNow("thing 60 by diver " + diver, DiversEdgesTest::sixty, x -> x.raise(asked, 0, 10, 1));
        }
        EchoRegistry x = Check.made(DiversEdgesTest::sixty);
        Check.due("sixty", x.things(), 60);
        Check.due("the bottles are not empty", x.air(0), 60);
        Check.due("a naming behind sixty things", x.name(0, 0, 5, ROCK), ROCK);
        Check.notNow("thing 60 from a rock", y -> {
            sixty(y);
            y.name(0, 0, 5, ROCK);
        }, y -> y.raise(1, 0, 10, 1));
    }

    private static void promise11Refuses() {
        for (int diver : Edges.noDivers()) {
            Check.noSuch("raise by " + diver, Edges::mixed, x -> x.raise(diver, 0, 10, 1));
        }
        for (int cell : Edges.noCells()) {
            Check.noSuch("raise at " + cell, Edges::mixed, x -> x.raise(0, cell, 10, 1));
        }
        for (int minutes : Edges.outside(10, 60)) {
            Check.outOfRange("raise for " + minutes, Edges::mixed, x -> x.raise(0, 0, minutes, 1));
        }
        for (int minutes = 5; minutes < 10; minutes++) {
            int asked = minutes;
            Check.outOfRange("a naming's " + minutes + " minutes", Edges::mixed, x -> x.raise(0, 0, asked, 1));
        }
        for (int value : Edges.outside(1, 100000)) {
            Check.outOfRange("raise of " + value, Edges::mixed, x -> x.raise(0, 0, 10, value));
        }
        Check.notNow("raise under water", Edges::mixed, x -> x.raise(1, 0, 10, 1));
        Check.notNow("raise while resting", Edges::mixed, x -> x.raise(2, 0, 10, 1));
        Check.notNow("raise without air", Edges::mixed, x -> x.raise(3, 0, 10, 1));
        Check.notNow("raise in no shape", Edges::mixed, x -> x.raise(0, 40, 10, 1));
        Check.notNow("raise from a rock", Edges::mixed, x -> x.raise(0, 50, 10, 1));
        Check.notNow("raise under water from a rock", Edges::mixed, x -> x.raise(1, 50, 60, 1));
    }

    private static void promise11RefusesInOrder() {
        for (int diver : new int[] {-1, 4}) {
            Check.noSuch("no diver, no cell", Edges::mixed, x -> x.raise(diver, 96, 10, 1));
            Check.noSuch("no diver ahead of minutes", Edges::mixed, x -> x.raise(diver, 0, 9, 1));
            Check.noSuch("no diver ahead of the value", Edges::mixed, x -> x.raise(diver, 0, 10, 0));
            Check.noSuch("no diver ahead of no shape", Edges::mixed, x -> x.raise(diver, 40, 10, 1));
            Check.noSuch("no diver ahead of a rock", Edges::mixed, x -> x.raise(diver, 50, 10, 1));
            Check.noSuch("no diver ahead of sixty", DiversEdgesTest::sixty, x -> x.raise(diver, 0, 10, 1));
        }
        for (int cell : new int[] {-1, 96}) {
            Check.noSuch("no cell ahead of minutes", Edges::mixed, x -> x.raise(0, cell, 61, 1));
            Check.noSuch("no cell ahead of the value", Edges::mixed, x -> x.raise(0, cell, 10, 100001));
            Check.noSuch("no cell ahead of a diver under water", Edges::mixed, x -> x.raise(1, cell, 10, 1));
            Check.noSuch("no cell ahead of a diver at rest", Edges::mixed, x -> x.raise(2, cell, 10, 1));
            Check.noSuch("no cell ahead of a diver without air", Edges::mixed, x -> x.raise(3, cell, 60, 1));
            Check.noSuch("no cell ahead of sixty", DiversEdgesTest::sixty, x -> x.raise(0, cell, 10, 1));
        }
        argumentsAheadOfStates(9, 1);
        argumentsAheadOfStates(61, 1);
        argumentsAheadOfStates(10, 0);
        argumentsAheadOfStates(10, 100001);
        argumentsAheadOfStates(61, 0);
    }

    private static void argumentsAheadOfStates(int minutes, int value) {
        String told = minutes + " minutes, the value " + value + ", ahead of ";
        Check.outOfRange(told + "a diver under water", Edges::mixed, x -> x.raise(1, 0, minutes, value));
        Check.outOfRange(told + "a diver at rest", Edges::mixed, x -> x.raise(2, 0, minutes, value));
        Check.outOfRange(told + "a diver without air", Edges::mixed, x -> x.raise(3, 0, minutes, value));
        Check.outOfRange(told + "no shape", Edges::mixed, x -> x.raise(0, 40, minutes, value));
        Check.outOfRange(told + "a rock", Edges::mixed, x -> x.raise(0, 50, minutes, value));
        Check.outOfRange(told + "sixty", DiversEdgesTest::sixty, x -> x.raise(0, 0, minutes, value));
    }

    private static void promise12FullAndEmpty() {
        EchoRegistry x = Check.made(DiversEdgesTest::withoutAir);
        Check.due("another diver's full bottle", x.fill(1), 0);
        Check.due("an empty bottle", x.fill(0), 200);
        Check.due("it is full", x.air(0), 200);
        Check.due("a full bottle", x.fill(0), 0);
        Check.due("the diver is free still", x.rest(0), 0);
        for (int diver : new int[] {0, 3}) {
            Check.due("on a new object", new EchoRegistry().fill(diver), 0);
        }
    }

    private static void promise12FreeFromTheMinute() {
        for (int minutes : new int[] {0, 4, 5, 6, 11}) {
            Check.notNow("fill " + minutes + " minutes behind a dive", dived(minutes), x -> x.fill(0));
        }
        EchoRegistry x = Check.made(dived(12));
        Check.due("fill 12 minutes behind it", x.fill(0), 20);
        Check.due("filled", x.air(0), 200);
    }

    private static void promise12Refuses() {
        for (int diver : Edges.noDivers()) {
            Check.noSuch("fill of " + diver, Edges::mixed, x -> x.fill(diver));
        }
        Check.notNow("fill under water", Edges::mixed, x -> x.fill(1));
        Check.notNow("fill while resting", Edges::mixed, x -> x.fill(2));
    }

    private static void promise13FullAndEmpty() {
        EchoRegistry x = new EchoRegistry();
        Check.due("full", x.air(0), 200);
        x.name(0, 24, 50, WRECK);
        Check.due("empty at once", x.air(0), 0);
        Check.due("of the last diver", x.air(3), 200);
        x.advance(14400);
        Check.due("empty until it is filled", x.air(0), 0);
        x.fill(0);
        Check.due("full again", x.air(0), 200);
    }

    private static void promise14FirstAndLastMinute() {
        for (int row = 0; row < 8; row++) {
            EchoRegistry x = new EchoRegistry();
            x.advance(1);
            x.name(3, 12 * row, LONGEST[row], WRECK);
            Check.due("behind a dive in row " + row, x.rest(3), REST_BEHIND_LONGEST[row]);
            x.advance(1);
            Check.due("a minute later", x.rest(3), REST_BEHIND_LONGEST[row] - 1);
            x.advance(LONGEST[row] - 1);
            Check.due("when the dive is over", x.rest(3), REST_BEHIND_LONGEST[row] - LONGEST[row]);
            x.advance(REST_BEHIND_LONGEST[row] - LONGEST[row] - 1);
            Check.due("in the last minute of the rest", x.rest(3), 1);
            x.advance(1);
            Check.due("from when on it is over", x.rest(3), 0);
            x.advance(1);
            Check.due("and behind that", x.rest(3), 0);
        }
    }

    private static void promise14NothingRefusedCounts() {
        EchoRegistry x = new EchoRegistry();
        x.name(0, 0, 5, WRECK);
        for (int more = 0; more < 7; more++) {
            int asked = more;
            Check.due("rest", x.rest(0), 7 - more);
            Check.notNow("a dive " + more + " minutes behind one", dived(asked), y -> y.name(0, 0, 60, ROCK));
            x.advance(1);
        }
        Check.due("over", x.rest(0), 0);
    }

    private static void promise15SixtyAtMost() {
        for (int row = 0; row < 8; row++) {
            for (int cell : new int[] {12 * row, 12 * row + 11}) {
                for (int diver : new int[] {0, 3}) {
                    Check.due("with a full bottle", new EchoRegistry().longest(diver, cell), LONGEST[row]);
                }
            }
        }
        Check.due("with 120 units to row 0", withUnits(0, 40).longest(0, 0), 60);
        Check.due("with 119 units to row 0", withUnits(12, 27).longest(0, 0), 59);
        Check.due("with 118 units to row 0", withUnits(0, 41).longest(0, 0), 59);
        Check.due("with 180 units to row 1", withUnits(0, 10).longest(0, 12), 60);
        Check.due("with 179 units to row 1", withUnits(12, 7).longest(0, 12), 59);
    }

    /** Diver 0 under water, with the units of air that a naming of these minutes at the cell leaves. */
    private static EchoRegistry withUnits(int cell, int minutes) {
        return Check.made(x -> x.name(0, cell, minutes, WRECK));
    }

    private static void promise15NoneAndOne() {
        EchoRegistry x = Check.made(DiversEdgesTest::withoutAir);
        for (int row = 0; row < 8; row++) {
            Check.due("without air to row " + row, x.longest(0, 12 * row), 0);
        }
        EchoRegistry two = withUnits(48, 33);
        Check.due("2 units", two.air(0), 2);
        Check.due("one minute in row 0", two.longest(0, 0), 1);
        Check.due("none in row 1", two.longest(0, 12), 0);
        EchoRegistry eight = withUnits(72, 24);
        Check.due("8 units", eight.air(0), 8);
        Check.due("four minutes in row 0", eight.longest(0, 11), 4);
        Check.due("two minutes in row 1", eight.longest(0, 23), 2);
        Check.due("one minute in row 6", eight.longest(0, 83), 1);
        Check.due("none in row 7", eight.longest(0, 84), 0);
    }

    /** What longest answers can be dived, and not a minute more. */
    private static void promise15IsTheLongest() {
        for (int first = 5; first <= 22; first++) {
            for (int row = 0; row < 8; row++) {
                int minutes = first;
                int cell = 12 * row;
                Check.Calls before = x -> {
                    x.name(0, 95, minutes, WRECK);
                    x.advance(200);
                };
                int longest = Check.made(before).longest(0, cell);
                if (longest >= 5) {
                    Check.due("the longest", Check.made(before).name(0, cell, longest, ROCK), NO_NAME);
                }
                if (longest >= 4 && longest < 60) {
                    Check.notNow("a minute more", before, x -> x.name(0, cell, longest + 1, ROCK));
                }
            }
        }
    }

    private static void promises13To15Refuse() {
        for (int diver : Edges.noDivers()) {
            Check.noSuch("air of " + diver, Edges::mixed, x -> x.air(diver));
            Check.noSuch("rest of " + diver, Edges::mixed, x -> x.rest(diver));
            Check.noSuch("longest of " + diver, Edges::mixed, x -> x.longest(diver, 0));
        }
        for (int cell : Edges.noCells()) {
            Check.noSuch("longest to " + cell, Edges::mixed, x -> x.longest(0, cell));
            Check.noSuch("longest of no diver to " + cell, Edges::mixed, x -> x.longest(4, cell));
        }
    }
}
