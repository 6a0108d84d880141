/** Promises 16 to 24: claims and time. */
public final class ClaimsTest {
    public static void main(String[] args) {
        promise16Claim();
        promise16ClaimBehindTheTerm();
        promise17Renew();
        promise18Advance();
        promise19Minute();
        promise20And21Finder();
        promise20And21FinderOfJoined();
        promise20And21FinderOfRock();
        promise20And21FinderByLastMark();
        promise20And21FinderBesideARock();
        promise22Claims();
        promise23Runs();
        promise24Holds();
        Check.end("ClaimsTest");
    }

    private static void promise16Claim() {
        EchoRegistry x = new EchoRegistry();
        x.sweep(0, 2, 1);
        x.sound(50, 1);
        Check.due("the first claim", x.claim(5, 1), 0);
        Check.finder(x, 0, 5);
        Check.due("the second claim", x.claim(0, 50), 1);
        Check.finder(x, 50, 0);
        x.sound(90, 1);
        Check.due("a finder may claim again", x.claim(5, 90), 2);
        Check.finder(x, 90, 5);
    }

    private static void promise16ClaimBehindTheTerm() {
        EchoRegistry x = new EchoRegistry();
        x.sweep(0, 2, 1);
        x.claim(3, 0);
        Edges.term(x);
        Check.due("a claim behind the term", x.claim(4, 0), 1);
        Check.finder(x, 1, 4);
        x.name(0, 0, 5, EchoRegistry.ROCK);
        x.name(1, 0, 5, EchoRegistry.WRECK);
        Check.finder(x, 1, 4);
        x.sound(0, 0);
        Check.due("a claim on the part that has none", x.claim(2, 1), 2);
        Check.finder(x, 1, 2);
    }

    private static void promise17Renew() {
        EchoRegistry x = new EchoRegistry();
        x.sweep(0, 2, 1);
        x.claim(3, 0);
        Check.due("at once", x.renew(0), 28800);
        x.advance(10);
        Check.due("behind ten minutes", x.renew(0), 28790);
        x.advance(14400);
        x.advance(14399);
        Check.due("in the last minute", x.renew(0), 1);
        x.advance(14400);
        x.advance(14399);
        Check.due("it runs by the renewal", x.runs(0), true);
        x.advance(1);
        Check.due("and no longer", x.runs(0), false);
        x.claim(4, 0);
        x.sweep(0, 2, 0);
        Check.due("in no shape", x.renew(1), 28800);
        x.name(0, 0, 5, EchoRegistry.ROCK);
        x.sweep(0, 2, 1);
        x.advance(100);
        Check.due("on a rock", x.renew(1), 28700);
    }

    private static void promise18Advance() {
        EchoRegistry x = new EchoRegistry();
        Check.due("one", x.advance(1), 1);
        Check.due("the most", x.advance(14400), 14401);
        for (int i = 0; i < 68; i++) {
            x.advance(14400);
        }
        Check.due("near the end", x.minute(), 993601);
        Check.due("the last minute", x.advance(6399), 1000000);
    }

    private static void promise19Minute() {
        EchoRegistry x = new EchoRegistry();
        x.advance(7);
        Check.due("seven", x.minute(), 7);
        x.sound(0, 1);
        x.name(0, 0, 60, EchoRegistry.WRECK);
        x.claim(0, 0);
        x.renew(0);
        Check.due("only advance moves it", x.minute(), 7);
        x.advance(60);
        Check.due("sixty more", x.minute(), 67);
    }

    private static void promise20And21Finder() {
        EchoRegistry x = new EchoRegistry();
        Check.finder(x, 0, EchoRegistry.NONE);
        x.sweep(0, 3, 1);
        Check.finder(x, 0, EchoRegistry.NONE);
        x.claim(2, 2);
        Check.finder(x, 0, 2);
        Check.finder(x, 2, 2);
        Check.finder(x, 3, EchoRegistry.NONE);
        Check.finder(x, 12, EchoRegistry.NONE);
        x.advance(14400);
        x.advance(14399);
        Check.finder(x, 0, 2);
        x.advance(1);
        Check.finder(x, 0, EchoRegistry.NONE);
    }

    private static void promise20And21FinderOfJoined() {
        EchoRegistry x = new EchoRegistry();
        x.sweep(0, 3, 1);
        x.sweep(4, 2, 1);
        x.claim(5, 5);
        x.advance(100);
        x.claim(1, 0);
        x.sound(3, 1);
        Check.finder(x, 0, 5);
        x.sound(1, 0);
        Check.finder(x, 0, 1);
        Check.finder(x, 2, 5);
        x.sound(1, 1);
        x.advance(14400);
        x.advance(14300);
        Check.finder(x, 5, 1);
        x.advance(99);
        Check.finder(x, 5, 1);
        x.sound(0, 0);
        Check.finder(x, 0, EchoRegistry.NONE);
        Check.finder(x, 5, EchoRegistry.NONE);
        x.sound(0, 7);
        Check.finder(x, 5, 1);
    }

    private static void promise20And21FinderOfRock() {
        EchoRegistry x = new EchoRegistry();
        x.sweep(0, 3, 1);
        x.claim(4, 0);
        x.name(0, 2, 5, EchoRegistry.ROCK);
        Check.finder(x, 0, EchoRegistry.NONE);
        x.sound(1, 0);
        Check.finder(x, 0, 4);
        Check.finder(x, 2, EchoRegistry.NONE);
        x.sound(1, 1);
        Check.finder(x, 0, EchoRegistry.NONE);
        x.name(1, 0, 5, EchoRegistry.WRECK);
        Check.finder(x, 2, 4);
        x.name(2, 1, 5, EchoRegistry.THING);
        Check.finder(x, 2, 4);
    }

    private static void promise20And21FinderByLastMark() {
        EchoRegistry x = new EchoRegistry();
        x.sweep(0, 5, 1);
        x.claim(4, 2);
        x.name(0, 1, 5, EchoRegistry.ROCK);
        x.name(1, 3, 5, EchoRegistry.WRECK);
        for (int cell = 0; cell < 5; cell++) {
            Check.finder(x, cell, 4);
        }
        x.name(2, 4, 5, EchoRegistry.ROCK);
        for (int cell = 0; cell < 5; cell++) {
            Check.finder(x, cell, EchoRegistry.NONE);
        }
        x.name(3, 0, 5, EchoRegistry.THING);
        for (int cell = 0; cell < 5; cell++) {
            Check.finder(x, cell, 4);
        }
    }

    /** An outing to few cells sees nothing of the one to many cells ahead of it. */
    private static void promise20And21FinderBesideARock() {
        EchoRegistry x = new EchoRegistry();
        x.sweep(0, 3, 1);
        x.sweep(50, 1, 1);
        x.claim(4, 0);
        x.claim(3, 50);
        x.name(0, 1, 5, EchoRegistry.ROCK);
        Check.finder(x, 0, EchoRegistry.NONE);
        Check.finder(x, 50, 3);
        Check.finder(x, 1, EchoRegistry.NONE);
        Check.finder(x, 49, EchoRegistry.NONE);
        Check.finder(x, 50, 3);
    }

    private static void promise22Claims() {
        EchoRegistry x = new EchoRegistry();
        x.sound(0, 1);
        Check.due("none", x.claims(), 0);
        x.claim(0, 0);
        Check.due("one", x.claims(), 1);
        x.renew(0);
        Check.due("a renewed one is no other", x.claims(), 1);
        Edges.term(x);
        Check.due("ended ones count", x.claims(), 1);
        x.claim(0, 0);
        Check.due("two", x.claims(), 2);
    }

    private static void promise23Runs() {
        EchoRegistry x = new EchoRegistry();
        x.advance(5);
        x.sound(0, 1);
        x.claim(0, 0);
        Check.due("in its first minute", x.runs(0), true);
        x.sound(0, 0);
        Check.due("in no shape", x.runs(0), true);
        x.name(0, 0, 5, EchoRegistry.ROCK);
        x.sound(0, 1);
        Check.due("on a rock", x.runs(0), true);
        x.advance(14400);
        x.advance(14399);
        Check.due("in its last minute", x.runs(0), true);
        x.advance(1);
        Check.due("behind its last minute", x.runs(0), false);
    }

    private static void promise24Holds() {
        EchoRegistry x = new EchoRegistry();
        x.sweep(0, 2, 1);
        x.sound(3, 1);
        x.claim(2, 0);
        x.claim(2, 3);
        Check.due("the first", x.holds(0), true);
        Check.due("the second", x.holds(1), true);
        x.sound(2, 1);
        Check.due("the first of the joined", x.holds(0), true);
        Check.due("the same finder's second one does not", x.holds(1), false);
        x.name(0, 1, 5, EchoRegistry.ROCK);
        Check.due("on a rock", x.holds(0), false);
        x.sound(0, 0);
        x.sound(1, 0);
        Check.due("in no shape", x.holds(0), false);
        Check.due("parted", x.holds(1), true);
        x.sound(0, 1);
        Check.due("back in a shape", x.holds(0), true);
        Edges.term(x);
        Check.due("ended", x.holds(0), false);
        Check.due("ended, too", x.holds(1), false);
    }
}
