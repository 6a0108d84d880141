/** Promises 16 to 24 at their edges: claims, time and finders. */
public final class ClaimsEdgesTest {
    private static final int NONE = EchoRegistry.NONE;
    private static final int ROCK = EchoRegistry.ROCK;
    private static final int WRECK = EchoRegistry.WRECK;

    public static void main(String[] args) {
        promise16FirstAndLastOfEach();
        promise16ShapeAndRock();
        promise16WhileThereIsAFinder();
        promise16FortyClaims();
        promise16Refuses();
        promise16RefusesInOrder();
        promise17FirstAndLastMinute();
        promise17TermBehindARenewal();
        promise17KeepsItsNumber();
        promise17InNoShapeAndOnARock();
        promise17LastMinuteOfAll();
        promise17Refuses();
        promise18FewestAndMost();
        promise18LastMinuteOfAll();
        promise18Refuses();
        promise19FirstAndLastMinute();
        promises20And21EachCell();
        promises20And21FirstAndLastMinute();
        promises20And21LowestThatRuns();
        promises20And21FortyClaims();
        promises20And21Rock();
        promises20And21RowsEnd();
        promises20And21Refuse();
        promise22NoneAndForty();
        promise23FirstAndLastMinute();
        promise24FirstAndLastMinute();
        promise24FortyClaims();
        promises23And24Refuse();
        Check.end("ClaimsEdgesTest");
    }

    private static void wholeChart(EchoRegistry x) {
        for (int row = 0; row < 8; row++) {
            x.sweep(12 * row, 12, 1);
        }
    }

    private static void promise16FirstAndLastOfEach() {
        for (int finder : new int[] {0, 5}) {
            for (int cell : new int[] {0, 95}) {
                for (int height : new int[] {1, 9}) {
                    EchoRegistry x = new EchoRegistry();
                    x.sound(cell, height);
                    Check.due("claim of " + finder + " on " + cell, x.claim(finder, cell), 0);
                    Check.finder(x, cell, finder);
                    Check.due("one claim", x.claims(), 1);
                }
            }
        }
    }

    /** A rock on the cells 0 to 2, named by the mark on 2; 4 has a mark and is in no shape; 50 is a wreck. */
    private static void rock(EchoRegistry x) {
        x.sweep(0, 3, 1);
        x.sound(50, 1);
        x.name(0, 2, 5, ROCK);
        x.name(1, 4, 5, WRECK);
        x.name(2, 50, 5, WRECK);
    }

    private static void promise16ShapeAndRock() {
        for (int cell = 0; cell < 5; cell++) {
            int asked = cell;
            Check.notNow("claim on " + cell, ClaimsEdgesTest::rock, x -> x.claim(0, asked));
        }
        EchoRegistry x = Check.made(ClaimsEdgesTest::rock);
        Check.due("on a wreck", x.claim(0, 50), 0);
        x.sound(1, 0);
        Check.due("on the part that is no rock", x.claim(1, 0), 1);
        Check.finder(x, 0, 1);
        x.name(3, 2, 5, EchoRegistry.THING);
        Check.due("on what was a rock", x.claim(2, 2), 2);
        x.sound(4, 1);
        Check.due("on a mark that has a shape again", x.claim(3, 4), 3);
    }

    /** A shape on 0 to 2 with a claim on 0, made in the minute 0. */
    private static void claimed(EchoRegistry x) {
        x.sweep(0, 3, 4);
        x.claim(0, 0);
    }

    private static void lastOfTerm(EchoRegistry x) {
        claimed(x);
        Edges.toLastOfTerm(x);
    }

    private static void promise16WhileThereIsAFinder() {
        Check.notNow("in the same minute", ClaimsEdgesTest::claimed, x -> x.claim(1, 2));
        Check.notNow("in the last minute", ClaimsEdgesTest::lastOfTerm, x -> x.claim(1, 2));
        Check.notNow("one's own shape in the last minute", ClaimsEdgesTest::lastOfTerm, x -> x.claim(0, 0));
        EchoRegistry x = Check.made(ClaimsEdgesTest::lastOfTerm);
        x.advance(1);
        Check.due("in the minute behind the last", x.claim(1, 2), 1);
        Check.finder(x, 0, 1);
        Check.notNow("of a shape that joins a claimed one", y -> {
            claimed(y);
            y.sound(4, 1);
            y.sound(3, 1);
        }, y -> y.claim(1, 4));
        Check.notNow("of a cell that went out of the shape and came again", y -> {
            claimed(y);
            y.sweep(0, 3, 0);
            y.sound(0, 1);
        }, y -> y.claim(1, 0));
        EchoRegistry parted = Check.made(ClaimsEdgesTest::claimed);
        parted.sound(0, 0);
        Check.due("without the claimed cell", parted.claim(1, 1), 1);
        parted.sound(0, 1);
        Check.finder(parted, 1, 0);
        Check.notNow("of a rock with a claim", y -> {
            claimed(y);
            y.name(0, 2, 5, ROCK);
        }, y -> y.claim(1, 0));
        Check.notNow("of what was a rock, with a claim", y -> {
            claimed(y);
            y.name(0, 2, 5, ROCK);
            y.name(1, 1, 5, WRECK);
        }, y -> y.claim(1, 0));
    }

    private static void fortyEnded(EchoRegistry x) {
        Edges.fortyClaims(x);
        Edges.term(x);
    }

    private static void promise16FortyClaims() {
        Check.notNow("claim 40", Edges::fortyClaims, x -> x.claim(0, 95));
        Check.notNow("claim 40 by the last finder", Edges::fortyClaims, x -> x.claim(5, 95));
        Check.notNow("claim 40 behind ended ones", ClaimsEdgesTest::fortyEnded, x -> x.claim(0, 95));
        EchoRegistry x = Check.made(Edges::fortyClaims);
        Check.due("forty", x.claims(), 40);
        for (int claim = 0; claim < 40; claim++) {
            Check.due("the term of claim " + claim, x.renew(claim), 28800);
            Check.finder(x, Edges.cellOfClaim(claim), claim % 6);
        }
        Check.finder(x, 95, NONE);
    }

    private static void promise16Refuses() {
        for (int finder : Edges.noFinders()) {
            Check.noSuch("claim of " + finder, Edges::mixed, x -> x.claim(finder, 0));
        }
        for (int cell : Edges.noCells()) {
            Check.noSuch("claim on " + cell, Edges::mixed, x -> x.claim(0, cell));
        }
        Check.notNow("claim in no shape", Edges::mixed, x -> x.claim(0, 40));
        Check.notNow("claim on a rock", Edges::mixed, x -> x.claim(0, 50));
        Check.notNow("claim on the first finder's shape", Edges::mixed, x -> x.claim(0, 0));
        Check.notNow("claim on a new object", Edges::nothing, x -> x.claim(0, 0));
    }

    private static void promise16RefusesInOrder() {
        for (int finder : new int[] {-1, 6}) {
            Check.noSuch("no finder, no cell", Edges::mixed, x -> x.claim(finder, 96));
            Check.noSuch("no finder ahead of no shape", Edges::mixed, x -> x.claim(finder, 40));
            Check.noSuch("no finder ahead of a rock", Edges::mixed, x -> x.claim(finder, 50));
            Check.noSuch("no finder ahead of a finder's shape", Edges::mixed, x -> x.claim(finder, 0));
            Check.noSuch("no finder ahead of forty", Edges::fortyClaims, x -> x.claim(finder, 95));
        }
        for (int cell : new int[] {-1, 96}) {
            Check.noSuch("no cell ahead of forty", Edges::fortyClaims, x -> x.claim(0, cell));
        }
    }

    private static Check.Calls claimedSince(int minutes) {
        return x -> {
            claimed(x);
            pass(x, minutes);
        };
    }

    private static void pass(EchoRegistry x, int minutes) {
        for (int left = minutes; left > 0; left -= 14400) {
            x.advance(Math.min(left, 14400));
        }
    }

    private static void promise17FirstAndLastMinute() {
        for (int minutes : new int[] {0, 1, 14400, 28798, 28799}) {
            EchoRegistry x = Check.made(claimedSince(minutes));
            Check.due("renew behind " + minutes, x.renew(0), 28800 - minutes);
            Check.due("at once again", x.renew(0), 28800);
        }
        for (int minutes : new int[] {28800, 28801, 57600}) {
            Check.notNow("renew behind " + minutes, claimedSince(minutes), x -> x.renew(0));
        }
    }

    private static void promise17TermBehindARenewal() {
        for (int minutes : new int[] {0, 1, 28799}) {
            EchoRegistry x = Check.made(claimedSince(minutes));
            x.renew(0);
            Edges.toLastOfTerm(x);
            Check.due("it runs in the last minute", x.runs(0), true);
            Check.due("it holds in the last minute", x.holds(0), true);
            Check.finder(x, 2, 0);
            x.advance(1);
            Check.due("it does not run behind that", x.runs(0), false);
            Check.due("it does not hold behind that", x.holds(0), false);
            Check.finder(x, 2, NONE);
            Check.due("a claim is free then", x.claim(3, 0), 1);
        }
        Check.notNow("renew behind the renewed term", x -> {
            claimedSince(100).on(x);
            x.renew(0);
            Edges.term(x);
        }, x -> x.renew(0));
    }

    /** Claims 0 and 1 on the parts of a shape, the first of them renewed last. */
    private static void promise17KeepsItsNumber() {
        EchoRegistry x = new EchoRegistry();
        x.sound(0, 1);
        x.sound(2, 1);
        x.claim(5, 2);
        x.claim(1, 0);
        x.sound(1, 1);
        x.advance(1);
        x.renew(1);
        Check.finder(x, 0, 5);
        Edges.toLastOfTerm(x);
        Check.due("the first one does not run", x.runs(0), false);
        Check.due("the second one does", x.renew(1), 1);
        Check.finder(x, 0, 1);
        Check.due("the second one holds", x.holds(1), true);
        Check.due("two claims", x.claims(), 2);
    }

    private static void promise17InNoShapeAndOnARock() {
        EchoRegistry x = Check.made(claimedSince(28799));
        x.sweep(0, 3, 0);
        Check.due("in no shape", x.renew(0), 1);
        x.advance(1);
        x.sweep(0, 3, 1);
        x.name(0, 0, 5, ROCK);
        Check.due("on a rock", x.renew(0), 28799);
        x.name(1, 0, 5, WRECK);
        Check.finder(x, 2, 0);
    }

    /** To the minute 971200, on a new object: a claim runs then to the minute 999999. */
    private static void claimsNearTheEnd(EchoRegistry x) {
        for (int i = 0; i < 67; i++) {
            x.advance(14400);
        }
        x.advance(6400);
        x.sound(0, 1);
        x.sound(50, 1);
        x.claim(0, 0);
        x.advance(1);
        x.claim(5, 50);
        Edges.toLastOfTerm(x);
    }

    private static void promise17LastMinuteOfAll() {
        EchoRegistry x = Check.made(ClaimsEdgesTest::claimsNearTheEnd);
        Check.due("the last minute", x.minute(), 1000000);
        Check.due("runs no more", x.runs(0), false);
        Check.due("runs still", x.renew(1), 1);
        Check.due("a claim in the last minute", x.claim(3, 0), 2);
        Check.due("its term", x.renew(2), 28800);
        Check.due("it holds", x.holds(2), true);
        Check.finder(x, 0, 3);
        Check.notNow("renew in the last minute", ClaimsEdgesTest::claimsNearTheEnd, y -> y.renew(0));
    }

    private static void promise17Refuses() {
        for (int claim : Edges.outside(0, 1)) {
            Check.noSuch("renew of " + claim, Edges::mixed, x -> x.renew(claim));
        }
        for (int claim : Edges.outside(0, 39)) {
            Check.noSuch("renew of " + claim + " with forty", Edges::fortyClaims, x -> x.renew(claim));
            Check.noSuch("renew of " + claim + " with forty ended ones", ClaimsEdgesTest::fortyEnded, x -> x.renew(claim));
        }
        Check.notNow("renew of the first ended one", ClaimsEdgesTest::fortyEnded, x -> x.renew(0));
        Check.notNow("renew of the last ended one", ClaimsEdgesTest::fortyEnded, x -> x.renew(39));
    }

    private static void promise18FewestAndMost() {
        EchoRegistry x = new EchoRegistry();
        Check.due("one", x.advance(1), 1);
        Check.due("the most", x.advance(14400), 14401);
        Check.due("one less than the most", x.advance(14399), 28800);
        Check.due("the minute", x.minute(), 28800);
    }

    /** To the minute 985600, from which the most minutes bring the last one. */
    private static void beforeTheEnd(EchoRegistry x) {
        for (int i = 0; i < 68; i++) {
            x.advance(14400);
        }
        x.advance(6400);
    }

    private static void promise18LastMinuteOfAll() {
        Check.due("the most to the end", Check.made(ClaimsEdgesTest::beforeTheEnd).advance(14400), 1000000);
        Check.Calls minuteLater = x -> {
            beforeTheEnd(x);
            x.advance(1);
        };
        Check.notNow("the most to the minute 1000001", minuteLater, x -> x.advance(14400));
        Check.due("one less", Check.made(minuteLater).advance(14399), 1000000);
        for (int minutes : new int[] {1, 2, 14399, 14400}) {
            Check.notNow("advance of " + minutes + " in the last minute", Edges::lastMinute, x -> x.advance(minutes));
        }
        Check.due("the last minute", Check.made(Edges::lastMinute).minute(), 1000000);
        Check.Calls minuteAhead = x -> {
            minuteLater.on(x);
            x.advance(14398);
        };
        Check.notNow("two minutes from the last but one", minuteAhead, x -> x.advance(2));
        Check.due("one minute from the last but one", Check.made(minuteAhead).advance(1), 1000000);
    }

    private static void promise18Refuses() {
        for (int minutes : Edges.outside(1, 14400)) {
            Check.outOfRange("advance of " + minutes, Edges::mixed, x -> x.advance(minutes));
            Check.outOfRange("advance of " + minutes + " ahead of the end", Edges::lastMinute, x -> x.advance(minutes));
        }
        Check.outOfRange("to the last minute at once", Edges::nothing, x -> x.advance(1000000));
        Check.outOfRange("over the last minute at once", Edges::nothing, x -> x.advance(1000001));
    }

    private static void promise19FirstAndLastMinute() {
        EchoRegistry x = new EchoRegistry();
        Check.due("the first minute", x.minute(), 0);
        int due = 0;
        for (int minutes : new int[] {1, 14400, 14399, 2}) {
            x.advance(minutes);
            due += minutes;
            Check.due("the minute", x.minute(), due);
        }
        Check.due("the last minute", Check.made(Edges::lastMinute).minute(), 1000000);
        for (int minutes : new int[] {32767, 32768, 65535, 65536, 131072}) {
            Check.due("beside a short number's end", Check.made(y -> pass(y, minutes)).minute(), minutes);
        }
    }

    private static void promises20And21EachCell() {
        for (int cell = 0; cell < 96; cell++) {
            EchoRegistry x = new EchoRegistry();
            x.sound(cell, 1);
            Check.finder(x, cell, NONE);
            x.claim(cell % 6, cell);
            Check.finder(x, cell, cell % 6);
            x.sound(cell, 0);
            Check.finder(x, cell, NONE);
            wholeChart(x);
            Check.finder(x, 0, cell % 6);
            Check.finder(x, 95, cell % 6);
        }
    }

    private static void promises20And21FirstAndLastMinute() {
        for (int minutes : new int[] {0, 1, 28798, 28799}) {
            Check.finder(Check.made(claimedSince(minutes)), 2, 0);
        }
        for (int minutes : new int[] {28800, 28801}) {
            Check.finder(Check.made(claimedSince(minutes)), 2, NONE);
        }
    }

    /** Claims 0 to 2 on three parts, made a minute apart; joined, the lowest that runs has the shape. */
    private static void promises20And21LowestThatRuns() {
        EchoRegistry x = new EchoRegistry();
        int[] cells = {4, 0, 2};
        int[] finders = {5, 0, 3};
        for (int claim = 0; claim < 3; claim++) {
            x.sound(cells[claim], 1);
            x.claim(finders[claim], cells[claim]);
            x.advance(1);
        }
        x.sound(1, 1);
        Check.finder(x, 2, 0);
        x.sound(3, 1);
        Check.finder(x, 2, 5);
        pass(x, 28796);
        for (int claim = 0; claim < 3; claim++) {
            Check.due("the last minute of claim " + claim, x.runs(claim), true);
            Check.finder(x, 2, finders[claim]);
            x.advance(1);
        }
        Check.finder(x, 2, NONE);
    }

    private static void promises20And21FortyClaims() {
        EchoRegistry x = Check.made(Edges::fortyClaims);
        wholeChart(x);
        for (int claim = 0; claim < 40; claim++) {
            int cell = Edges.cellOfClaim(claim);
            Check.finder(x, cell, claim % 6);
            Check.due("claim " + claim + " holds", x.holds(claim), true);
            x.sound(cell, 0);
            Check.finder(x, cell, NONE);
        }
        Check.finder(x, 95, NONE);
    }

    private static void promises20And21Rock() {
        EchoRegistry x = Check.made(ClaimsEdgesTest::claimed);
        x.name(0, 2, 5, ROCK);
        for (int cell = 0; cell < 4; cell++) {
            Check.finder(x, cell, NONE);
        }
        Check.due("it runs on a rock", x.runs(0), true);
        Check.due("it does not hold a rock", x.holds(0), false);
        x.name(1, 3, 5, WRECK);
        x.sound(3, 1);
        Check.finder(x, 0, 0);
        x.name(2, 1, 5, ROCK);
        Check.finder(x, 3, NONE);
        x.sound(1, 0);
        Check.finder(x, 0, 0);
        Check.finder(x, 2, NONE);
    }

    private static void promises20And21RowsEnd() {
        EchoRegistry x = new EchoRegistry();
        for (int cell = 11; cell < 95; cell += 12) {
            x.sound(cell, 1);
            x.sound(cell + 1, 1);
        }
        x.claim(1, 11);
        x.claim(2, 12);
        for (int cell = 11; cell < 95; cell += 12) {
            Check.finder(x, cell, 1);
            Check.finder(x, cell + 1, 2);
        }
        Check.finder(x, 0, NONE);
        Check.finder(x, 95, NONE);
    }

    private static void promises20And21Refuse() {
        for (int cell : Edges.noCells()) {
            Check.noSuch("finder of " + cell, Edges::mixed, x -> x.finder(cell));
            Check.noSuch("finderBySoundings of " + cell, Edges::mixed, x -> x.finderBySoundings(cell));
        }
        EchoRegistry x = Check.made(Edges::mixed);
        Check.finder(x, 0, 1);
        Check.finder(x, 95, 4);
        Check.finder(x, 50, NONE);
    }

    private static void promise22NoneAndForty() {
        Check.due("none", new EchoRegistry().claims(), 0);
        Check.due("forty", Check.made(Edges::fortyClaims).claims(), 40);
        Check.due("forty ended ones", Check.made(ClaimsEdgesTest::fortyEnded).claims(), 40);
        EchoRegistry x = Check.made(ClaimsEdgesTest::claimed);
        x.sweep(0, 3, 0);
        Check.due("one that lies on no shape", x.claims(), 1);
    }

    private static void promise23FirstAndLastMinute() {
        for (int minutes : new int[] {0, 1, 28798, 28799}) {
            Check.due("runs behind " + minutes, Check.made(claimedSince(minutes)).runs(0), true);
        }
        for (int minutes : new int[] {28800, 28801}) {
            Check.due("runs behind " + minutes, Check.made(claimedSince(minutes)).runs(0), false);
        }
        EchoRegistry x = Check.made(Edges::fortyClaims);
        Check.due("the first of forty", x.runs(0), true);
        Check.due("the last of forty", x.runs(39), true);
        EchoRegistry ended = Check.made(ClaimsEdgesTest::fortyEnded);
        Check.due("the first of forty ended ones", ended.runs(0), false);
        Check.due("the last of forty ended ones", ended.runs(39), false);
    }

    private static void promise24FirstAndLastMinute() {
        for (int minutes : new int[] {0, 1, 28798, 28799}) {
            Check.due("holds behind " + minutes, Check.made(claimedSince(minutes)).holds(0), true);
        }
        for (int minutes : new int[] {28800, 28801}) {
            Check.due("holds behind " + minutes, Check.made(claimedSince(minutes)).holds(0), false);
        }
        EchoRegistry x = Check.made(claimedSince(28800));
        x.claim(0, 0);
        Check.due("the ended one of the same finder and cell", x.holds(0), false);
        Check.due("the one that runs", x.holds(1), true);
        x.sound(0, 0);
        Check.due("in no shape, beside its old one", x.holds(1), false);
    }

    private static void promise24FortyClaims() {
        EchoRegistry x = Check.made(Edges::fortyClaims);
        for (int claim = 0; claim < 40; claim++) {
            Check.due("each holds its own shape", x.holds(claim), true);
        }
        wholeChart(x);
        for (int claim = 0; claim < 40; claim++) {
            Check.due("the first one holds the joined", x.holds(claim), claim == 0);
        }
        EchoRegistry ended = Check.made(ClaimsEdgesTest::fortyEnded);
        for (int claim = 0; claim < 40; claim++) {
            Check.due("none holds behind the term", ended.holds(claim), false);
        }
    }

    private static void promises23And24Refuse() {
        for (int claim : Edges.outside(0, 1)) {
            Check.noSuch("runs of " + claim, Edges::mixed, x -> x.runs(claim));
            Check.noSuch("holds of " + claim, Edges::mixed, x -> x.holds(claim));
        }
        for (int claim : Edges.outside(0, 39)) {
            Check.noSuch("runs of " + claim + " with forty", Edges::fortyClaims, x -> x.runs(claim));
            Check.noSuch("holds of " + claim + " with forty", Edges::fortyClaims, x -> x.holds(claim));
        }
    }
}
