import java.lang.management.ManagementFactory;

/** All calls of a run share one room, which one object with all its calls must not fill. */
public final class RoomTest {
    private static final String PROGRAM = "40k[c2v_3 7/1.01 50^*_2^1 3%[t]Z3 2>b lax]salax";
    private static final int RUNS = 460;
    // No field or element takes less than a byte, and no object less than sixteen: within so many
    // bytes there are fewer than 7.3 million of the one and 600,000 of the other.
    private static final long MOST_BYTES = 7300000;

    public static void main(String[] args) {
        // The first one may be charged with what the machine itself makes at first.
        use(new MacroReckoner());
        long before = allocated();
        use(new MacroReckoner());
        long used = allocated() - before;
        System.out.println("a run of dear calls took " + used + " bytes");
        Desk.same("a run takes at most " + MOST_BYTES + " bytes", used <= MOST_BYTES, true);
        Desk.close("RoomTest");
    }

    private static long allocated() {
        com.sun.management.ThreadMXBean threads =
            (com.sun.management.ThreadMXBean) ManagementFactory.getThreadMXBean();
        return threads.getThreadAllocatedBytes(Thread.currentThread().getId());
    }

    /** As many calls as an object may be used for, of those that reckon most. */
    private static void use(MacroReckoner reckoner) {
        for (int i = 0; i < PROGRAM.length(); i++) {
            reckoner.type(PROGRAM.charAt(i));
        }
        int goesOn = 0;
        for (int i = 0; i < RUNS; i++) {
            goesOn += reckoner.run(100) == MacroReckoner.MORE ? 1 : 0;
        }
        Desk.same("how many runs had more to do", goesOn, RUNS);
    }
}
