/** Promises 25 to 29 at their edges: things, rewards and what the law keeps. */
public final class ThingsEdgesTest {
    private static final int NONE = EchoRegistry.NONE;
    private static final int NO_NAME = EchoRegistry.NO_NAME;
    private static final int ROCK = EchoRegistry.ROCK;
    private static final int WRECK = EchoRegistry.WRECK;
    private static final int THING = EchoRegistry.THING;

    public static void main(String[] args) {
        promise25NoneAndSixty();
        promise26FirstAndLastCell();
        promise26LowestOfAll();
        promise26AsItWasThen();
        promise27FirstAndLastFinder();
        promise27FirstAndLastMinute();
        promise27AsItWasThen();
        promises26And27Refuse();
        promises28And29RoundedUp();
        promises28And29LeastAndGreatest();
        promises28And29WithoutFinder();
        promises28And29NameOfThen();
        promises28And29SixtyOfTheGreatest();
        promise28EachFinderApart();
        promise28Refuses();
        Check.end("ThingsEdgesTest");
    }

    private static void sixty(EchoRegistry x) {
        Edges.sixtyThings(x, 1);
    }

    private static void promise25NoneAndSixty() {
        Check.due("none", new EchoRegistry().things(), 0);
        Check.due("sixty", Check.made(ThingsEdgesTest::sixty).things(), 60);
        EchoRegistry x = Check.made(Edges::mixed);
        Check.due("one", x.things(), 1);
        x.sweep(0, 4, 0);
        Check.due("one without its shape", x.things(), 1);
    }

    private static void promise26FirstAndLastCell() {
        for (int cell = 0; cell < 96; cell++) {
            EchoRegistry x = new EchoRegistry();
            x.sound(cell, 1);
            x.raise(0, cell, 10, 1);
            Check.due("the shape of one cell", x.shapeOfThing(0), cell);
        }
    }

    private static void promise26LowestOfAll() {
        EchoRegistry x = new EchoRegistry();
        for (int row = 0; row < 8; row++) {
            x.sweep(12 * row, 12, 1);
        }
        x.raise(0, 95, 10, 1);
        x.sound(0, 0);
        x.raise(1, 95, 10, 1);
        x.sweep(0, 12, 0);
        x.raise(2, 95, 10, 1);
        Check.due("of the whole chart", x.shapeOfThing(0), 0);
        Check.due("without its lowest", x.shapeOfThing(1), 1);
        Check.due("without its first row", x.shapeOfThing(2), 12);
    }

    private static void promise26AsItWasThen() {
        EchoRegistry x = new EchoRegistry();
        x.sound(95, 1);
        x.raise(0, 95, 10, 1);
        x.sound(94, 1);
        Check.due("behind a join", x.shapeOfThing(0), 95);
        x.sound(95, 0);
        Check.due("behind the cell's end", x.shapeOfThing(0), 95);
        x.sound(94, 0);
        x.name(1, 95, 5, ROCK);
        x.sound(95, 1);
        Check.due("as a rock", x.shapeOfThing(0), 95);
    }

    private static void promise27FirstAndLastFinder() {
        for (int finder = 0; finder < 6; finder++) {
            EchoRegistry x = new EchoRegistry();
            x.sound(0, 1);
            x.raise(0, 0, 10, 4);
            x.claim(finder, 0);
            x.raise(1, 0, 10, 4);
            Check.due("none", x.finderOfThing(0), NONE);
            Check.due("the finder", x.finderOfThing(1), finder);
            Check.due("the finder's part", x.reward(finder), 3);
            Check.due("the law's part", x.kept(), 5);
        }
    }

    private static void promise27FirstAndLastMinute() {
        EchoRegistry x = new EchoRegistry();
        x.sweep(0, 2, 1);
        x.claim(0, 0);
        x.raise(0, 1, 10, 8);
        Edges.toLastOfTerm(x);
        x.raise(1, 1, 10, 8);
        x.advance(1);
        x.raise(2, 1, 10, 8);
        Check.due("in the minute of the claim", x.finderOfThing(0), 0);
        Check.due("in the last minute of the claim", x.finderOfThing(1), 0);
        Check.due("behind the last minute", x.finderOfThing(2), NONE);
        Check.due("twice six", x.reward(0), 12);
        Check.due("twice two, and all of the third", x.kept(), 12);
    }

    private static void promise27AsItWasThen() {
        EchoRegistry x = new EchoRegistry();
        x.sweep(0, 2, 1);
        x.claim(5, 0);
        x.raise(0, 1, 10, 8);
        x.sound(0, 0);
        x.claim(0, 1);
        x.raise(1, 1, 10, 8);
        x.sound(0, 1);
        x.raise(2, 1, 10, 8);
        x.name(3, 0, 5, ROCK);
        Check.due("by the first claim", x.finderOfThing(0), 5);
        Check.due("parted, by the second claim", x.finderOfThing(1), 0);
        Check.due("joined again", x.finderOfThing(2), 5);
        Check.due("the rewards stay, though it is a rock", x.reward(5), 12);
        Check.due("of both", x.reward(0), 6);
    }

    private static void promises26And27Refuse() {
        for (int thing : Edges.outside(0, 0)) {
            Check.noSuch("shapeOfThing " + thing, Edges::mixed, x -> x.shapeOfThing(thing));
            Check.noSuch("finderOfThing " + thing, Edges::mixed, x -> x.finderOfThing(thing));
        }
        for (int thing : Edges.outside(0, 59)) {
            Check.noSuch("shapeOfThing " + thing + " of sixty", ThingsEdgesTest::sixty, x -> x.shapeOfThing(thing));
            Check.noSuch("finderOfThing " + thing + " of sixty", ThingsEdgesTest::sixty, x -> x.finderOfThing(thing));
        }
        EchoRegistry x = Check.made(ThingsEdgesTest::sixty);
        for (int thing = 0; thing < 60; thing++) {
            Check.due("the shape of thing " + thing, x.shapeOfThing(thing), 0);
            Check.due("the finder of thing " + thing, x.finderOfThing(thing), NONE);
        }
    }

    /** Diver 0's raising from cell 0, which finder 5 has, under the name; behind that the diver is free and filled. */
    private static void raiseAgain(EchoRegistry x, int value) {
        x.raise(0, 0, 10, value);
        x.advance(15);
        x.fill(0);
    }

    private static EchoRegistry named(int name) {
        EchoRegistry x = new EchoRegistry();
        x.sound(0, 1);
        x.claim(5, 0);
        if (name != NO_NAME) {
            x.name(1, 0, 5, name);
        }
        return x;
    }

    /** The values 1 to 60: the law's part is the least number of which the divisor's many make the value or more. */
    private static void roundedUp(int name, int divisor) {
        EchoRegistry x = named(name);
        int law = 0;
        int finder = 0;
        int part = 0;
        for (int value = 1; value <= 60; value++) {
            if (part * divisor < value) {
                part++;
            }
            law += part;
            finder += value - part;
            raiseAgain(x, value);
            Check.due("kept with the value " + value + " under the name " + name, x.kept(), law);
            Check.due("reward with the value " + value + " under the name " + name, x.reward(5), finder);
        }
    }

    private static void promises28And29RoundedUp() {
        roundedUp(WRECK, 2);
        roundedUp(THING, 10);
        roundedUp(NO_NAME, 4);
    }

    private static void oneOf(int name, int value, int part) {
        EchoRegistry x = named(name);
        raiseAgain(x, value);
        Check.due("kept of " + value + " under the name " + name, x.kept(), part);
        Check.due("reward of " + value + " under the name " + name, x.reward(5), value - part);
    }

    private static void promises28And29LeastAndGreatest() {
        oneOf(WRECK, 1, 1);
        oneOf(THING, 1, 1);
        oneOf(NO_NAME, 1, 1);
        oneOf(WRECK, 99999, 50000);
        oneOf(THING, 99999, 10000);
        oneOf(NO_NAME, 99999, 25000);
        oneOf(WRECK, 100000, 50000);
        oneOf(THING, 100000, 10000);
        oneOf(NO_NAME, 100000, 25000);
        oneOf(WRECK, 99998, 49999);
        oneOf(THING, 99990, 9999);
        oneOf(THING, 99991, 10000);
        oneOf(NO_NAME, 99996, 24999);
        oneOf(NO_NAME, 99997, 25000);
    }

    private static void promises28And29WithoutFinder() {
        for (int name : new int[] {NO_NAME, WRECK, THING}) {
            for (int value : new int[] {1, 100000}) {
                EchoRegistry x = named(name);
                Edges.term(x);
                raiseAgain(x, value);
                Check.due("all of " + value + " under the name " + name, x.kept(), value);
                for (int finder = 0; finder < 6; finder++) {
                    Check.due("no reward of " + finder, x.reward(finder), 0);
                }
            }
        }
    }

    private static void promises28And29NameOfThen() {
        EchoRegistry x = named(NO_NAME);
        x.raise(0, 0, 10, 100);
        Check.due("a fourth", x.kept(), 25);
        x.name(2, 0, 5, WRECK);
        Check.due("a later name changes nothing", x.kept(), 25);
        x.raise(1, 0, 10, 100);
        Check.due("and a half", x.kept(), 75);
        x.name(3, 0, 5, THING);
        x.advance(20);
        x.raise(0, 0, 10, 100);
        Check.due("and a tenth", x.kept(), 85);
        Check.due("the rest", x.reward(5), 215);
        x.name(1, 0, 5, ROCK);
        Edges.term(x);
        Check.due("kept as a rock, behind the term", x.kept(), 85);
        Check.due("the rest stays", x.reward(5), 215);
    }

    private static void promises28And29SixtyOfTheGreatest() {
        EchoRegistry none = Check.made(x -> Edges.sixtyThings(x, 100000));
        Check.due("the most that the law can keep", none.kept(), 6000000);
        EchoRegistry thing = named(THING);
        thing.advance(7);
        Edges.sixtyThings(thing, 100000);
        Check.due("the law's tenths", thing.kept(), 600000);
        Check.due("the most that a finder can get", thing.reward(5), 5400000);
        Check.due("another finder", thing.reward(0), 0);
    }

    private static void promise28EachFinderApart() {
        EchoRegistry x = new EchoRegistry();
        for (int finder = 0; finder < 6; finder++) {
            x.sound(2 * finder, 1);
            x.claim(finder, 2 * finder);
            x.raise(finder % 4, 2 * finder, 10, 40 * (finder + 1));
            x.advance(15);
        }
        for (int finder = 0; finder < 6; finder++) {
            Check.due("the reward of " + finder, x.reward(finder), 30 * (finder + 1));
        }
        Check.due("the law's fourths", x.kept(), 210);
    }

    private static void promise28Refuses() {
        for (int finder : Edges.noFinders()) {
            Check.noSuch("reward of " + finder, Edges::mixed, x -> x.reward(finder));
        }
        EchoRegistry x = Check.made(Edges::mixed);
        Check.due("the law's half of 7", x.kept(), 4);
        Check.due("the rest of 7", x.reward(1), 3);
        Check.due("the first finder", x.reward(0), 0);
        Check.due("the last finder", x.reward(5), 0);
    }
}
