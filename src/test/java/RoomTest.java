import java.lang.management.ManagementFactory;

/** All calls of a run share one room: no call makes anything, and an object itself is small. */
public final class RoomTest {
    private static final long MOST_PER_OBJECT = 40000;
    /** For what the machine itself may make while it measures; one int[8] a call would be more. */
    private static final long SLACK = 8000;

    private RoomTest() {
    }

    public static void main(String[] args) {
        com.sun.management.ThreadMXBean meter = (com.sun.management.ThreadMXBean) ManagementFactory.getThreadMXBean();
        long thread = Thread.currentThread().getId();
        HallOfClaims[] halls = new HallOfClaims[11];
        long before = meter.getThreadAllocatedBytes(thread);
        for (int i = 0; i < halls.length; i++) {
            halls[i] = new HallOfClaims();
        }
        long each = (meter.getThreadAllocatedBytes(thread) - before) / halls.length;
        Checks.holds("an object takes " + each + " bytes", each < MOST_PER_OBJECT);
        long sum = allCalls(halls[0]);
        for (int i = 1; i < halls.length; i++) {
            before = meter.getThreadAllocatedBytes(thread);
            long again = allCalls(halls[i]);
            long made = meter.getThreadAllocatedBytes(thread) - before;
            Checks.due("the same calls, the same answers", again, sum);
            Checks.holds("512 calls take " + made + " bytes", made < SLACK);
        }
        Checks.end();
    }

    private static long allCalls(HallOfClaims x) {
        long sum = 0;
        for (int i = 0; i < 8; i++) {
            sum += x.claims(i == 3 ? 4 : 0, i, i % 3);
            sum += x.letter("m2;a+c;;".charAt(i));
        }
        for (int i = 0; i < 8; i++) {
            sum += x.attacks(i, (i + 1) % 8) + x.attacks(i, (i + 3) % 8) + x.row(2);
        }
        sum += x.hall() + x.image();
        for (int i = 0; i < 8; i++) {
            sum += x.claim(i, 8) + x.label(i) + x.turn(i) + x.sets(i % 6, i) + x.among(i % 6, i, 1) + x.ideal();
            sum += x.game(i, 0) + x.game(i, 1) + x.answer(i, (i + 7) % 8) + x.changes(i, 0) + x.without(i);
            sum += x.spare(0) + x.missing(i, 20, 0) + x.whatIs(i, 0) + x.whatIs(i, 1) + x.lots(20, i, 0);
            sum += x.speakers(i - 1, 2) + x.lots(20, i, 1) + x.count(i) + x.kind(i, 1, 1) + x.mode(i % 4);
            sum += x.turns(i) + x.supports(i, 0) + x.letter('*') + x.hall() + x.judge() + x.clear() + x.on();
        }
        return sum;
    }
}
