import java.lang.management.ManagementFactory;

/** All calls of a run live in one room: what an object takes, and that its calls take nothing. */
public final class RoomTest {
    private static final Due DUE = new Due("room");
    private static final int CALLS = 512;

    public static void main(String[] args) {
        spend(new MistHands(), 40);
        long before = allocated();
        MistHands hands = new MistHands();
        long made = allocated() - before;
        DUE.is("an object of " + made + " bytes", made < 40_000, true);
        before = allocated();
        spend(hands, CALLS);
        long spent = allocated() - before;
        DUE.is(CALLS + " calls of " + spent + " bytes", spent < 20_000, true);
        DUE.end();
    }

    private static long allocated() {
        com.sun.management.ThreadMXBean threads =
            (com.sun.management.ThreadMXBean) ManagementFactory.getThreadMXBean();
        return threads.getThreadAllocatedBytes(Thread.currentThread().getId());
    }

    /** Each method in turn, with what makes it work hardest. */
    private static void spend(MistHands m, int calls) {
        for (int call = 0; call < calls; call++) {
            switch (call % 29) {
                case 0 -> m.ground(call % 12, 3, call % 100, 2);
                case 1 -> m.air(call % 12, 3, 999, 999);
                case 2 -> m.wind(call % 100, 3);
                case 3 -> m.feed(0x63313028, 0x783D3526, 0x793D3529, 0, 0);
                case 4 -> m.law(12);
                case 5 -> m.steps(60);
                case 6 -> m.cell(3, 3, 5);
                case 7 -> m.sums(4);
                case 8 -> m.night(60, 0);
                case 9 -> m.sun(5, 5, 198, 60);
                case 10 -> m.band(60, 5);
                case 11 -> m.works(4, 4, 60, 2);
                case 12 -> m.dam(5, 3, 0);
                case 13 -> m.road(call % 20, call % 10, (call + 1) % 10, 5, 5);
                case 14 -> m.soonest(0, 9, 0, 0);
                case 15 -> m.edge(2);
                case 16 -> m.was(1, 2, 3, 4, 5);
                case 17 -> m.line(0, 5, 5, 0);
                case 18 -> m.tells(5, 5);
                case 19 -> m.held(5, 5);
                case 20 -> m.odds(1, 1, 1, 50, 0);
                case 21 -> m.when(5, 5, 0);
                case 22 -> m.lid(50, 12, 9, 0);
                case 23 -> m.seed(call);
                case 24 -> m.draw(60);
                case 25 -> m.keep();
                case 26 -> m.undo();
                case 27 -> m.check(3, 0);
                default -> m.count(0);
            }
        }
    }
}
