import java.lang.management.ManagementFactory;

/**
 * What the dearest runs of calls make, in bytes as the JVM counts them: all calls of one run share a
 * room of 7.3 million fields and elements, which are 29 million bytes if each is an int.
 */
public final class RoomTest {
    private static final Checks CHECKS = new Checks();
    private static final long ROOM_BYTES = 4L * 7_300_000;
    private static volatile Object kept;

    public static void main(String[] args) {
        String dear = dearProgram();
        // Classes and their constants are made once.
        shrinkAgain(dear, 3);
        below("500 runs of the dearest program", bytes(() -> runAgain(dear, 500)), ROOM_BYTES / 20);
        below("many shrinks", bytes(() -> shrinkAgain(dear, 20)), ROOM_BYTES / 2);
        below("512 new objects", bytes(RoomTest::makeMany), ROOM_BYTES);
        below("128 objects with a program each", bytes(RoomTest::compileMany), ROOM_BYTES / 2);
        CHECKS.end("RoomTest");
    }

    private static void below(String what, long made, long most) {
        System.out.println(what + ": " + made + " bytes");
        CHECKS.due(what + " make less than " + most + " bytes", made < most ? 1 : 0, 1);
    }

    private static long bytes(Runnable task) {
        com.sun.management.ThreadMXBean bean = (com.sun.management.ThreadMXBean) ManagementFactory.getThreadMXBean();
        long before = bean.getCurrentThreadAllocatedBytes();
        task.run();
        return bean.getCurrentThreadAllocatedBytes() - before;
    }

    /** Sixty STEPS, most of which make a text of 400 units, and a refusal that needs them all. */
    private static String dearProgram() {
        StringBuilder program = new StringBuilder("repeat v0 \"0123456789\" 40\n");
        for (int i = 0; i < 28; i++) {
            program.append("change v0 v0 ").append(48 + i % 10).append(' ').append(100 + i).append('\n');
            program.append("replace v0 v0 \"1\" \"1\"\n");
        }
        return program + "unit w0 v0 0\nunit w1 \"abc\" w0\n";
    }

    private static void runAgain(String program, int times) {
        TextLessons x = new TextLessons();
        Tapes.compile(x, program);
        for (int i = 0; i < times; i++) {
            x.run();
        }
        kept = x;
    }

    private static void shrinkAgain(String program, int times) {
        TextLessons x = new TextLessons();
        for (int i = 0; i < times; i++) {
            CHECKS.due("compile", Tapes.compile(x, program), 59);
            CHECKS.due("run", x.run(), 59);
            CHECKS.due("shrink", x.shrink() > 1 ? 1 : 0, 1);
        }
        kept = x;
    }

    private static void makeMany() {
        for (int i = 0; i < 512; i++) {
            kept = new TextLessons();
        }
    }

    private static void compileMany() {
        for (int i = 0; i < 128; i++) {
            TextLessons x = new TextLessons();
            Tapes.compile(x, "mark 1");
            x.run();
            kept = x;
        }
    }
}
