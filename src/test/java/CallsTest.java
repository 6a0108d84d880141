/** "What it is": an object is used for at most 512 calls, so that its 512th is answered as any other. */
public final class CallsTest {
    /** So many calls stand ahead of the last one. */
    private static final int AHEAD = 511;

    public static void main(String[] args) {
        soundings();
        sweeps();
        outings();
        titles();
        namings();
        raisings();
        renewals();
        minutes();
        fillings();
        refusals();
        Check.end("CallsTest");
    }

    private static void soundings() {
        EchoRegistry x = new EchoRegistry();
        for (int call = 0; call < AHEAD; call++) {
            Check.due("sounding " + call, x.sound(95, call % 10), call == 0 ? 0 : (call - 1) % 10);
        }
        Check.due("the last sounding", x.sound(95, 9), 0);
    }

    private static void sweeps() {
        EchoRegistry x = new EchoRegistry();
        for (int call = 0; call < AHEAD; call++) {
            Check.due("sweep " + call, x.sweep(12 * (call % 8), 12, 9), 1);
        }
        Check.due("the last sweep", x.sweep(13, 10, 0), 1);
    }

    private static void outings() {
        EchoRegistry x = new EchoRegistry();
        for (int row = 0; row < 8; row++) {
            x.sweep(12 * row, 12, 1);
        }
        x.claim(5, 95);
        for (int call = 9; call < AHEAD; call++) {
            Check.due("outing " + call, x.finderBySoundings(call % 96), 5);
        }
        Check.due("the last outing", x.finderBySoundings(0), 5);
    }

    private static void titles() {
        EchoRegistry x = new EchoRegistry();
        x.sweep(84, 12, 1);
        x.claim(5, 95);
        String due = "N84x12f5";
        for (int call = 2; call < AHEAD; call++) {
            Check.due("title " + call, x.titleAt(95, call % 8), due.charAt(call % 8));
        }
        Check.due("the last sign of the last title", x.titleAt(84, 7), '5');
    }

    /** Marks in turn by all divers, as many as 512 calls can lay in the first row. */
    private static void namings() {
        EchoRegistry x = new EchoRegistry();
        x.sweep(0, 12, 1);
        int call = 1;
        int turn = 0;
        while (call < AHEAD) {
            int name = 1 + turn % 3;
            Check.due("naming " + turn, x.name(turn % 4, turn % 12, 5, name), name);
            call++;
            turn++;
            if (turn % 4 == 0 && call < AHEAD) {
                x.advance(7);
                call++;
            }
            for (int diver = 0; diver < 4 && turn % 80 == 0 && call < AHEAD; diver++) {
                x.fill(diver);
                call++;
            }
        }
        Check.due("the last mark of " + turn, x.nameOf(turn % 12), 1 + (turn - 1) % 3);
    }

    private static void raisings() {
        EchoRegistry x = Check.made(y -> Edges.sixtyThings(y, 100000));
        for (int call = 81; call < AHEAD; call++) {
            Check.due("the things", x.things(), 60);
        }
        Check.due("what is kept of them, asked last", x.kept(), 6000000);
    }

    private static void renewals() {
        EchoRegistry x = new EchoRegistry();
        x.sound(0, 1);
        x.claim(0, 0);
        for (int call = 2; call < AHEAD; call++) {
            Check.due("renewal " + call, x.renew(0), 28800);
        }
        Check.due("the last renewal", x.renew(0), 28800);
    }

    private static void minutes() {
        EchoRegistry x = new EchoRegistry();
        for (int call = 0; call < AHEAD; call++) {
            Check.due("minute " + call, x.advance(1), call + 1);
        }
        Check.due("the last minute", x.advance(1), 512);
    }

    private static void fillings() {
        EchoRegistry x = new EchoRegistry();
        for (int call = 0; call < AHEAD; call++) {
            Check.due("filling " + call, x.fill(3), 0);
        }
        Check.due("the last filling", x.fill(3), 0);
    }

    private static void refusals() {
        Check.Calls before = x -> {
            x.sound(95, 3);
            for (int call = 1; call < AHEAD; call++) {
                refuse(x, call);
            }
        };
        Check.due("a sounding behind refusals", Check.made(before).sound(95, 0), 3);
        Check.due("a naming behind refusals", Check.made(before).name(0, 95, 22, EchoRegistry.WRECK), EchoRegistry.WRECK);
        Check.due("a claim behind refusals", Check.made(before).claim(0, 95), 0);
        Check.due("a thing behind refusals", Check.made(before).raise(0, 95, 22, 1), 0);
        Check.due("a minute behind refusals", Check.made(before).advance(1), 1);
        Check.due("the shapes behind refusals", Check.made(before).shapes(), 1);
    }

    private static void refuse(EchoRegistry x, int call) {
        try {
            switch (call % 5) {
                case 0 -> x.sound(96, 1);
                case 1 -> x.name(0, 95, 23, EchoRegistry.ROCK);
                case 2 -> x.claim(0, 0);
                case 3 -> x.raise(0, 0, 10, 1);
                default -> x.advance(0);
            }
            Check.due("call " + call + " is refused", false, true);
        } catch (IndexOutOfBoundsException | IllegalArgumentException | IllegalStateException e) {
            Check.due("call " + call + " is refused", true, true);
        }
    }
}
