/** Promises 10 to 15: divers, air and rests. */
public final class DiversTest {
    public static void main(String[] args) {
        promise10Name();
        promise10NameAnswers();
        promise11Raise();
        promise12Fill();
        promise13Air();
        promise14Rest();
        promise15Longest();
        Check.end("DiversTest");
    }

    private static void promise10Name() {
        EchoRegistry x = new EchoRegistry();
        x.name(0, 11, 60, EchoRegistry.ROCK);
        Check.due("air behind 60 minutes in row 0", x.air(0), 80);
        Check.due("rest behind 60 minutes in row 0", x.rest(0), 90);
        x.name(1, 12, 5, EchoRegistry.ROCK);
        Check.due("air behind 5 minutes in row 1", x.air(1), 185);
        Check.due("rest behind 5 minutes in row 1", x.rest(1), 10);
        x.name(2, 35, 7, EchoRegistry.ROCK);
        Check.due("air behind 7 minutes in row 2", x.air(2), 172);
        Check.due("rest behind 7 minutes in row 2", x.rest(2), 17);
        x.name(3, 95, 22, EchoRegistry.ROCK);
        Check.due("air behind 22 minutes in row 7", x.air(3), 2);
        Check.due("rest behind 22 minutes in row 7", x.rest(3), 110);
        Check.due("the minute stays", x.minute(), 0);
    }

    private static void promise10NameAnswers() {
        EchoRegistry x = new EchoRegistry();
        x.sweep(0, 3, 1);
        Check.due("in no shape", x.name(0, 5, 5, EchoRegistry.THING), EchoRegistry.NO_NAME);
        Check.due("THING", x.name(1, 2, 5, EchoRegistry.THING), EchoRegistry.THING);
        Check.due("WRECK", x.name(2, 0, 5, EchoRegistry.WRECK), EchoRegistry.WRECK);
        Check.due("ROCK", x.name(3, 1, 5, EchoRegistry.ROCK), EchoRegistry.ROCK);
        x.advance(7);
        Check.due("a rock is named anew", x.name(0, 2, 5, EchoRegistry.WRECK), EchoRegistry.WRECK);
    }

    private static void promise11Raise() {
        EchoRegistry x = new EchoRegistry();
        x.sweep(0, 2, 1);
        x.sound(95, 1);
        Check.due("the first thing", x.raise(0, 1, 10, 1), 0);
        Check.due("air behind 10 minutes in row 0", x.air(0), 180);
        Check.due("rest behind 10 minutes in row 0", x.rest(0), 15);
        Check.due("the second thing", x.raise(1, 95, 11, 100000), 1);
        Check.due("air behind 11 minutes in row 7", x.air(1), 101);
        Check.due("rest behind 11 minutes in row 7", x.rest(1), 55);
        Check.due("the third thing", x.raise(2, 0, 60, 5), 2);
        Check.due("the shape stays", x.size(0), 2);
        x.name(3, 0, 5, EchoRegistry.WRECK);
        x.advance(15);
        Check.due("from a wreck", x.raise(0, 0, 10, 5), 3);
        x.name(3, 0, 5, EchoRegistry.THING);
        x.advance(15);
        Check.due("from a thing", x.raise(0, 0, 10, 5), 4);
    }

    private static void promise12Fill() {
        EchoRegistry x = new EchoRegistry();
        Check.due("a full bottle", x.fill(0), 0);
        x.name(0, 95, 5, EchoRegistry.ROCK);
        x.name(1, 0, 5, EchoRegistry.ROCK);
        x.advance(7);
        Check.due("another diver's bottle", x.fill(1), 10);
        Check.due("at once full", x.fill(1), 0);
        x.advance(18);
        Check.due("in the first free minute", x.fill(0), 45);
        Check.due("filled", x.air(0), 200);
    }

    private static void promise13Air() {
        EchoRegistry x = new EchoRegistry();
        int[] due = {190, 185, 180, 175};
        for (int diver = 0; diver < 4; diver++) {
            x.name(diver, 12 * diver, 5, EchoRegistry.ROCK);
            Check.due("air in row " + diver, x.air(diver), due[diver]);
        }
        x.advance(100);
        Check.due("air comes not of itself", x.air(0), 190);
        int[] deeper = {160, 150, 140, 130};
        for (int diver = 0; diver < 4; diver++) {
            x.name(diver, 12 * (diver + 4) + 11, 5, EchoRegistry.ROCK);
            Check.due("air in row " + (diver + 4), x.air(diver), deeper[diver]);
        }
    }

    private static void promise14Rest() {
        EchoRegistry x = new EchoRegistry();
        Check.due("free", x.rest(2), 0);
        x.advance(100);
        x.name(2, 40, 7, EchoRegistry.ROCK);
        Check.due("7 minutes, and 14 behind them", x.rest(2), 21);
        Check.due("another diver is free", x.rest(3), 0);
        x.advance(20);
        Check.due("the last minute", x.rest(2), 1);
        x.advance(1);
        Check.due("over", x.rest(2), 0);
        x.advance(500);
        Check.due("long over", x.rest(2), 0);
        x.name(2, 30, 9, EchoRegistry.ROCK);
        Check.due("9 minutes, and 13 and a half, rounded down", x.rest(2), 22);
    }

    private static void promise15Longest() {
        EchoRegistry x = new EchoRegistry();
        int[] due = {60, 60, 50, 40, 33, 28, 25, 22};
        for (int row = 0; row < 8; row++) {
            Check.due("longest to row " + row, x.longest(3, 12 * row + row), due[row]);
        }
        x.name(3, 24, 50, EchoRegistry.WRECK);
        Check.due("without air, and not free", x.longest(3, 0), 0);
        Check.due("another diver", x.longest(2, 95), 22);
        x.name(2, 83, 24, EchoRegistry.WRECK);
        Check.due("8 units of air in row 7", x.longest(2, 84), 0);
        Check.due("8 units of air in row 6", x.longest(2, 72), 1);
        Check.due("8 units of air in row 0", x.longest(2, 0), 4);
        Check.due("it takes nothing", x.air(2), 8);
    }
}
