import java.lang.management.ManagementFactory;

/** All calls of a run share one room: only the constructor may take up any of it. */
public final class RoomTest {
    private static final String PROGRAM = "40k[c2v_3 7/1.01 50^*_2^1 3%[t]Zn3 2>b lax]salax";
    private static final int RUNS = 150;
    // Below one byte for each command that is done here; a single object has sixteen.
    private static final long MOST_BYTES = 100 * RUNS;

    public static void main(String[] args) {
        // The first one may be charged with what the machine itself makes at first.
        use(new MacroReckoner());
        long before = allocated();
        MacroReckoner reckoner = new MacroReckoner();
        long made = allocated() - before;
        before = allocated();
        use(reckoner);
        long used = allocated() - before;
        Desk.same("an object takes at most 40000 bytes (" + made + ")", made <= 40000, true);
        Desk.same("its calls take next to none (" + used + ")", used <= MOST_BYTES, true);
        Desk.close("RoomTest");
    }

    private static long allocated() {
        com.sun.management.ThreadMXBean threads =
            (com.sun.management.ThreadMXBean) ManagementFactory.getThreadMXBean();
        return threads.getThreadAllocatedBytes(Thread.currentThread().getId());
    }

    private static void use(MacroReckoner reckoner) {
        for (int i = 0; i < PROGRAM.length(); i++) {
            reckoner.type(PROGRAM.charAt(i));
        }
        int goesOn = 0;
        for (int i = 0; i < RUNS; i++) {
            goesOn += reckoner.run(100) == MacroReckoner.MORE ? 1 : 0;
            reckoner.tear();
            reckoner.running();
        }
        if (goesOn != RUNS) {
            throw new IllegalStateException("the program to measure has stopped");
        }
    }
}
