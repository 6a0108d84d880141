/** Promises 16 to 24: claims and time. */
public final class ClaimsTest {
    private static final int[] NO_CELLS = {-1, 96, Integer.MIN_VALUE, Integer.MAX_VALUE};

    public static void main(String[] args) {
        promise16Claim();
        promise16ClaimRefuses();
        promise16ClaimBehindTheTerm();
        promise16FortyClaims();
        promise17Renew();
        promise17RenewRefuses();
        promise18Advance();
        promise18AdvanceRefuses();
        promise19Minute();
        promise20And21Finder();
        promise20And21FinderOfJoined();
        promise20And21FinderOfRock();
        promise20And21FinderByLastMark();
        promise20And21FinderBesideARock();
        promise20And21FinderRefuses();
        promise22Claims();
        promise23Runs();
        promise24Holds();
        promise24HoldsRefuses();
        Check.end("ClaimsTest");
    }

    private static void finder(EchoRegistry x, int cell, int due) {
        Check.due("finder of " + cell, x.finder(cell), due);
        Check.due("finder by soundings of " + cell, x.finderBySoundings(cell), due);
    }

    private static void term(EchoRegistry x) {
        x.advance(14400);
        x.advance(14400);
    }

    private static void promise16Claim() {
        EchoRegistry x = new EchoRegistry();
        x.sweep(0, 2, 1);
        x.sound(50, 1);
        Check.due("the first claim", x.claim(5, 1), 0);
        finder(x, 0, 5);
        Check.due("the second claim", x.claim(0, 50), 1);
        finder(x, 50, 0);
        x.sound(90, 1);
        Check.due("a finder may claim again", x.claim(5, 90), 2);
        finder(x, 90, 5);
    }

    private static void promise16ClaimRefuses() {
        Check.Calls before = x -> x.sweep(0, 3, 4);
        int[] finders = {-1, 6, Integer.MIN_VALUE, Integer.MAX_VALUE};
        for (int finder : finders) {
            Check.noSuch("claim of " + finder, before, x -> x.claim(finder, 0));
            Check.noSuch("claim of " + finder + " ahead of no shape", before, x -> x.claim(finder, 50));
        }
        for (int cell : NO_CELLS) {
            Check.noSuch("claim on " + cell, before, x -> x.claim(0, cell));
        }
        Check.notNow("claim in no shape", before, x -> x.claim(0, 3));
        Check.Calls rock = x -> {
            x.sweep(0, 2, 1);
            x.name(0, 1, 5, EchoRegistry.ROCK);
        };
        Check.notNow("claim on a rock", rock, x -> x.claim(0, 0));
        Check.Calls claimed = x -> {
            x.sweep(0, 3, 4);
            x.claim(0, 0);
            x.advance(14400);
            x.advance(14399);
        };
        Check.notNow("claim of another's shape", claimed, x -> x.claim(1, 2));
        Check.notNow("claim of one's own shape", claimed, x -> x.claim(0, 0));
    }

    private static void promise16ClaimBehindTheTerm() {
        EchoRegistry x = new EchoRegistry();
        x.sweep(0, 2, 1);
        x.claim(3, 0);
        term(x);
        Check.due("a claim behind the term", x.claim(4, 0), 1);
        finder(x, 1, 4);
        x.name(0, 0, 5, EchoRegistry.ROCK);
        x.name(1, 0, 5, EchoRegistry.WRECK);
        finder(x, 1, 4);
        x.sound(0, 0);
        Check.due("a claim on the part that has none", x.claim(2, 1), 2);
        finder(x, 1, 2);
    }

    private static void claimForty(EchoRegistry x) {
        int made = 0;
        for (int cell = 0; cell < 96 && made < 40; cell++) {
            if ((cell / 12 + cell) % 2 == 0) {
                x.sound(cell, 1);
                Check.due("the next claim", x.claim(made % 6, cell), made);
                made++;
            }
        }
        x.sound(95, 1);
    }

    private static void promise16FortyClaims() {
        Check.notNow("a claim behind forty", ClaimsTest::claimForty, x -> x.claim(0, 95));
        EchoRegistry x = Check.made(ClaimsTest::claimForty);
        Check.due("forty", x.claims(), 40);
        finder(x, 95, EchoRegistry.NONE);
        Check.due("the last one holds", x.holds(39), true);
        term(x);
        Check.due("the last one ended", x.runs(39), false);
        Check.notNow("a claim behind forty ended ones", y -> {
            claimForty(y);
            term(y);
        }, y -> y.claim(0, 95));
    }

    private static void promise17Renew() {
        EchoRegistry x = new EchoRegistry();
        x.sweep(0, 2, 1);
        x.claim(3, 0);
        Check.due("at once", x.renew(0), 28800);
        x.advance(10);
        Check.due("behind ten minutes", x.renew(0), 28790);
        x.advance(14400);
        x.advance(14399);
        Check.due("in the last minute", x.renew(0), 1);
        x.advance(14400);
        x.advance(14399);
        Check.due("it runs by the renewal", x.runs(0), true);
        x.advance(1);
        Check.due("and no longer", x.runs(0), false);
        x.claim(4, 0);
        x.sweep(0, 2, 0);
        Check.due("in no shape", x.renew(1), 28800);
        x.name(0, 0, 5, EchoRegistry.ROCK);
        x.sweep(0, 2, 1);
        x.advance(100);
        Check.due("on a rock", x.renew(1), 28700);
    }

    private static void promise17RenewRefuses() {
        Check.Calls claimed = x -> {
            x.sound(0, 1);
            x.sound(50, 1);
            x.claim(0, 0);
            x.advance(1);
            x.claim(1, 50);
        };
        int[] claims = {-1, 2, 40, Integer.MIN_VALUE, Integer.MAX_VALUE};
        for (int claim : claims) {
            Check.noSuch("renew of " + claim, claimed, x -> x.renew(claim));
        }
        Check.Calls ended = x -> {
            claimed.on(x);
            x.advance(14400);
            x.advance(14399);
        };
        Check.notNow("renew behind the term", ended, x -> x.renew(0));
        Check.due("the later one", Check.made(ended).renew(1), 1);
    }

    private static void promise18Advance() {
        EchoRegistry x = new EchoRegistry();
        Check.due("one", x.advance(1), 1);
        Check.due("the most", x.advance(14400), 14401);
        for (int i = 0; i < 68; i++) {
            x.advance(14400);
        }
        Check.due("near the end", x.minute(), 993601);
        Check.due("the last minute", x.advance(6399), 1000000);
    }

    private static void nearTheEnd(EchoRegistry x) {
        for (int i = 0; i < 69; i++) {
            x.advance(14400);
        }
        x.advance(6390);
    }

    private static void promise18AdvanceRefuses() {
        int[] minutes = {0, -1, 14401, Integer.MIN_VALUE, Integer.MAX_VALUE};
        for (int many : minutes) {
            Check.outOfRange("advance of " + many, x -> x.advance(5), x -> x.advance(many));
            Check.outOfRange("advance of " + many + " near the end", ClaimsTest::nearTheEnd, x -> x.advance(many));
        }
        Check.notNow("advance over the end by one", ClaimsTest::nearTheEnd, x -> x.advance(11));
        Check.notNow("advance over the end", ClaimsTest::nearTheEnd, x -> x.advance(14400));
        Check.due("advance to the end", Check.made(ClaimsTest::nearTheEnd).advance(10), 1000000);
    }

    private static void promise19Minute() {
        EchoRegistry x = new EchoRegistry();
        x.advance(7);
        Check.due("seven", x.minute(), 7);
        x.sound(0, 1);
        x.name(0, 0, 60, EchoRegistry.WRECK);
        x.claim(0, 0);
        x.renew(0);
        Check.due("only advance moves it", x.minute(), 7);
        x.advance(60);
        Check.due("sixty more", x.minute(), 67);
    }

    private static void promise20And21Finder() {
        EchoRegistry x = new EchoRegistry();
        finder(x, 0, EchoRegistry.NONE);
        x.sweep(0, 3, 1);
        finder(x, 0, EchoRegistry.NONE);
        x.claim(2, 2);
        finder(x, 0, 2);
        finder(x, 2, 2);
        finder(x, 3, EchoRegistry.NONE);
        finder(x, 12, EchoRegistry.NONE);
        x.advance(14400);
        x.advance(14399);
        finder(x, 0, 2);
        x.advance(1);
        finder(x, 0, EchoRegistry.NONE);
    }

    private static void promise20And21FinderOfJoined() {
        EchoRegistry x = new EchoRegistry();
        x.sweep(0, 3, 1);
        x.sweep(4, 2, 1);
        x.claim(5, 5);
        x.advance(100);
        x.claim(1, 0);
        x.sound(3, 1);
        finder(x, 0, 5);
        x.sound(1, 0);
        finder(x, 0, 1);
        finder(x, 2, 5);
        x.sound(1, 1);
        x.advance(14400);
        x.advance(14300);
        finder(x, 5, 1);
        x.advance(99);
        finder(x, 5, 1);
        x.sound(0, 0);
        finder(x, 0, EchoRegistry.NONE);
        finder(x, 5, EchoRegistry.NONE);
        x.sound(0, 7);
        finder(x, 5, 1);
    }

    private static void promise20And21FinderOfRock() {
        EchoRegistry x = new EchoRegistry();
        x.sweep(0, 3, 1);
        x.claim(4, 0);
        x.name(0, 2, 5, EchoRegistry.ROCK);
        finder(x, 0, EchoRegistry.NONE);
        x.sound(1, 0);
        finder(x, 0, 4);
        finder(x, 2, EchoRegistry.NONE);
        x.sound(1, 1);
        finder(x, 0, EchoRegistry.NONE);
        x.name(1, 0, 5, EchoRegistry.WRECK);
        finder(x, 2, 4);
        x.name(2, 1, 5, EchoRegistry.THING);
        finder(x, 2, 4);
    }

    private static void promise20And21FinderByLastMark() {
        EchoRegistry x = new EchoRegistry();
        x.sweep(0, 5, 1);
        x.claim(4, 2);
        x.name(0, 1, 5, EchoRegistry.ROCK);
        x.name(1, 3, 5, EchoRegistry.WRECK);
        for (int cell = 0; cell < 5; cell++) {
            finder(x, cell, 4);
        }
        x.name(2, 4, 5, EchoRegistry.ROCK);
        for (int cell = 0; cell < 5; cell++) {
            finder(x, cell, EchoRegistry.NONE);
        }
        x.name(3, 0, 5, EchoRegistry.THING);
        for (int cell = 0; cell < 5; cell++) {
            finder(x, cell, 4);
        }
    }

    /** An outing to few cells sees nothing of the one to many cells ahead of it. */
    private static void promise20And21FinderBesideARock() {
        EchoRegistry x = new EchoRegistry();
        x.sweep(0, 3, 1);
        x.sweep(50, 1, 1);
        x.claim(4, 0);
        x.claim(3, 50);
        x.name(0, 1, 5, EchoRegistry.ROCK);
        finder(x, 0, EchoRegistry.NONE);
        finder(x, 50, 3);
        finder(x, 1, EchoRegistry.NONE);
        finder(x, 49, EchoRegistry.NONE);
        finder(x, 50, 3);
    }

    private static void promise20And21FinderRefuses() {
        Check.Calls before = x -> x.sweep(0, 3, 4);
        for (int cell : NO_CELLS) {
            Check.noSuch("finder of " + cell, before, x -> x.finder(cell));
            Check.noSuch("finderBySoundings of " + cell, before, x -> x.finderBySoundings(cell));
        }
    }

    private static void promise22Claims() {
        EchoRegistry x = new EchoRegistry();
        x.sound(0, 1);
        Check.due("none", x.claims(), 0);
        x.claim(0, 0);
        Check.due("one", x.claims(), 1);
        x.renew(0);
        Check.due("a renewed one is no other", x.claims(), 1);
        term(x);
        Check.due("ended ones count", x.claims(), 1);
        x.claim(0, 0);
        Check.due("two", x.claims(), 2);
    }

    private static void promise23Runs() {
        EchoRegistry x = new EchoRegistry();
        x.advance(5);
        x.sound(0, 1);
        x.claim(0, 0);
        Check.due("in its first minute", x.runs(0), true);
        x.sound(0, 0);
        Check.due("in no shape", x.runs(0), true);
        x.name(0, 0, 5, EchoRegistry.ROCK);
        x.sound(0, 1);
        Check.due("on a rock", x.runs(0), true);
        x.advance(14400);
        x.advance(14399);
        Check.due("in its last minute", x.runs(0), true);
        x.advance(1);
        Check.due("behind its last minute", x.runs(0), false);
        int[] claims = {-1, 1, 40, Integer.MIN_VALUE, Integer.MAX_VALUE};
        Check.Calls one = y -> {
            y.sound(0, 1);
            y.claim(0, 0);
        };
        for (int claim : claims) {
            Check.noSuch("runs of " + claim, one, y -> y.runs(claim));
        }
    }

    private static void promise24Holds() {
        EchoRegistry x = new EchoRegistry();
        x.sweep(0, 2, 1);
        x.sound(3, 1);
        x.claim(2, 0);
        x.claim(2, 3);
        Check.due("the first", x.holds(0), true);
        Check.due("the second", x.holds(1), true);
        x.sound(2, 1);
        Check.due("the first of the joined", x.holds(0), true);
        Check.due("the same finder's second one does not", x.holds(1), false);
        x.name(0, 1, 5, EchoRegistry.ROCK);
        Check.due("on a rock", x.holds(0), false);
        x.sound(0, 0);
        x.sound(1, 0);
        Check.due("in no shape", x.holds(0), false);
        Check.due("parted", x.holds(1), true);
        x.sound(0, 1);
        Check.due("back in a shape", x.holds(0), true);
        term(x);
        Check.due("ended", x.holds(0), false);
        Check.due("ended, too", x.holds(1), false);
    }

    private static void promise24HoldsRefuses() {
        Check.Calls one = x -> {
            x.sound(0, 1);
            x.claim(0, 0);
        };
        int[] claims = {-1, 1, 40, Integer.MIN_VALUE, Integer.MAX_VALUE};
        for (int claim : claims) {
            Check.noSuch("holds of " + claim, one, x -> x.holds(claim));
        }
    }
}
