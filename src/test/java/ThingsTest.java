/** Promises 25 to 29: things and rewards. */
public final class ThingsTest {
    public static void main(String[] args) {
        promise25Things();
        promise26ShapeOfThing();
        promise27FinderOfThing();
        promise28And29WithoutName();
        promise28And29Wreck();
        promise28And29Thing();
        promise28And29WithoutFinder();
        promise28Reward();
        Check.end("ThingsTest");
    }

    private static void promise25Things() {
        EchoRegistry x = new EchoRegistry();
        x.sound(0, 1);
        Check.due("none", x.things(), 0);
        x.raise(0, 0, 10, 50);
        Check.due("one", x.things(), 1);
        x.name(1, 0, 5, EchoRegistry.THING);
        Check.due("a naming raises nothing", x.things(), 1);
        x.raise(2, 0, 10, 50);
        Check.due("two", x.things(), 2);
    }

    private static void promise26ShapeOfThing() {
        EchoRegistry x = new EchoRegistry();
        x.sweep(5, 3, 1);
        x.raise(0, 7, 10, 50);
        Check.due("its lowest cell", x.shapeOfThing(0), 5);
        x.sound(4, 1);
        Check.due("as it was then", x.shapeOfThing(0), 5);
        x.raise(1, 7, 10, 50);
        Check.due("as it is now", x.shapeOfThing(1), 4);
        x.sweep(4, 4, 0);
        Check.due("without the shape", x.shapeOfThing(1), 4);
        Check.due("the first one still", x.shapeOfThing(0), 5);
    }

    private static void promise27FinderOfThing() {
        EchoRegistry x = new EchoRegistry();
        x.sweep(0, 2, 1);
        x.raise(0, 1, 10, 50);
        x.claim(4, 0);
        x.raise(1, 1, 10, 50);
        x.sound(0, 0);
        x.raise(2, 1, 10, 50);
        x.claim(3, 1);
        x.raise(3, 1, 10, 50);
        Check.due("ahead of the claim", x.finderOfThing(0), EchoRegistry.NONE);
        Check.due("with the claim", x.finderOfThing(1), 4);
        Check.due("parted from the claim", x.finderOfThing(2), EchoRegistry.NONE);
        Check.due("with the other claim", x.finderOfThing(3), 3);
        x.advance(14400);
        x.advance(14400);
        x.raise(0, 1, 10, 50);
        Check.due("behind the term", x.finderOfThing(4), EchoRegistry.NONE);
        Check.due("the finder of then stays", x.finderOfThing(3), 3);
    }

    /** Raises a thing of the value from a shape of finder 2 with the name; the law keeps the part. */
    private static void shared(int name, int value, int part) {
        EchoRegistry x = new EchoRegistry();
        x.sound(0, 1);
        x.claim(2, 0);
        if (name != EchoRegistry.NO_NAME) {
            x.name(1, 0, 5, name);
        }
        x.raise(0, 0, 10, value);
        Check.due("kept of " + value + " under the name " + name, x.kept(), part);
        Check.due("reward of " + value + " under the name " + name, x.reward(2), value - part);
    }

    private static void promise28And29WithoutName() {
        int[] values = {1, 3, 4, 5, 7, 8, 101, 99999, 100000};
        int[] parts = {1, 1, 1, 2, 2, 2, 26, 25000, 25000};
        for (int i = 0; i < values.length; i++) {
            shared(EchoRegistry.NO_NAME, values[i], parts[i]);
        }
    }

    private static void promise28And29Wreck() {
        int[] values = {1, 2, 3, 7, 99999, 100000};
        int[] parts = {1, 1, 2, 4, 50000, 50000};
        for (int i = 0; i < values.length; i++) {
            shared(EchoRegistry.WRECK, values[i], parts[i]);
        }
    }

    private static void promise28And29Thing() {
        int[] values = {1, 9, 10, 11, 19, 20, 101, 99999, 100000};
        int[] parts = {1, 1, 1, 2, 2, 2, 11, 10000, 10000};
        for (int i = 0; i < values.length; i++) {
            shared(EchoRegistry.THING, values[i], parts[i]);
        }
    }

    private static void promise28And29WithoutFinder() {
        EchoRegistry x = new EchoRegistry();
        x.sound(0, 1);
        x.raise(0, 0, 10, 100);
        Check.due("all without a name", x.kept(), 100);
        x.name(1, 0, 5, EchoRegistry.WRECK);
        x.raise(2, 0, 10, 1000);
        Check.due("all of a wreck", x.kept(), 1100);
        x.name(3, 0, 5, EchoRegistry.THING);
        x.advance(20);
        x.raise(0, 0, 10, 10000);
        Check.due("all of a thing", x.kept(), 11100);
        for (int finder = 0; finder < 6; finder++) {
            Check.due("reward of " + finder, x.reward(finder), 0);
        }
        x.claim(0, 0);
        Check.due("a later claim changes nothing", x.kept(), 11100);
        Check.due("nor its reward", x.reward(0), 0);
    }

    private static void promise28Reward() {
        EchoRegistry x = new EchoRegistry();
        x.sound(0, 1);
        x.sound(50, 1);
        x.claim(0, 0);
        x.claim(5, 50);
        x.raise(0, 0, 10, 100);
        x.raise(1, 50, 10, 1000);
        x.raise(2, 0, 10, 10);
        Check.due("the sum of the first finder", x.reward(0), 82);
        Check.due("the sum of the last finder", x.reward(5), 750);
        Check.due("a finder without claims", x.reward(1), 0);
        Check.due("the law's sum", x.kept(), 278);
    }
}
