import java.lang.management.ManagementFactory;

/** The calls of one object, as many of one kind as there can be, make next to no new objects. */
public final class RoomTest {
    // A new object with all rows that a run can want, with some 16 bytes an object and 4 an element.
    private static final long MOST_BYTES = 600_000;
    private static final int CALLS = 512;
    private static final int CALLS_OF_FILL = 150;
    private static final int[] CALLS_OF_KIND = {1, 2, 1, 1, 1, 2, 1, 2, 2, 4, 2, 2, 3};

    private static long allocated() {
        com.sun.management.ThreadMXBean threads =
            (com.sun.management.ThreadMXBean) ManagementFactory.getThreadMXBean();
        return threads.getThreadAllocatedBytes(Thread.currentThread().getId());
    }

    private static Ballothall fill(int candidates) {
        Ballothall hall = Check.withCandidates(candidates);
        String letters = "ABCDEFGH".substring(0, candidates);
        for (int i = 0; i < 29; i++) {
            StringBuilder text = new StringBuilder(letters);
            for (int at = text.length() - 1; at > 0; at--) {
                char last = text.charAt(at);
                int other = (i * 7 + at * 5) % (at + 1);
                text.setCharAt(at, text.charAt(other));
                text.setCharAt(other, last);
            }
            for (int at = text.length() - 1; at > 0; at--) {
                text.insert(at, (i + at) % 3 == 0 ? '=' : '>');
            }
            Check.cast(hall, text.toString(), 99000 + i * 31);
        }
        for (int i = 0; i < 8; i++) {
            hall.list(1000 + 77 * i);
            hall.ally(i, i / 3);
        }
        for (int i = 0; i < 16; i++) {
            hall.ward(100 + i * 37 % 11, 50 + i, 60 - i);
        }
        for (int i = 0; i < 12; i++) {
            hall.member(10 + i);
        }
        hall.setQuota(90);
        hall.transferable(3);
        hall.seats(1, 60, 0);
        return hall;
    }

    private static long call(Ballothall hall, int which, int i) {
        switch (which) {
            case 0: return hall.transferable(1 + i % 3);
            case 1: return hall.writePile(hall.steps() - i % 2, i % 8);
            case 2: return hall.seats(i % 6, 60, i % 20);
            case 3: return hall.lossAt(60);
            case 4: return hall.errors();
            case 5: return hall.consensusAt(i % 8) + hall.consensusDistance();
            case 6: return hall.spoiler(i % 5);
            case 7: return hall.greatestDistrict(1 + i % 16) + hall.wasted(8, 1);
            case 8: return hall.swings(i % 12) + hall.ordersTurned(i % 12);
            case 9: return hall.proportionalAt(7) + hall.safeAfter() + hall.beatingSet() + hall.pathWinners();
            case 10: return hall.type(0x413E42L) + hall.winnerWith(i % 5, 1000);
            case 11: return hall.type(0x413E42L) + hall.ballots(1);
            default: return hall.undo() + hall.setQuota(90) + hall.setLot(false, 0, 5);
        }
    }

    public static void main(String[] arguments) {
        Check check = new Check("RoomTest");
        allocated();
        for (int which = 0; which <= 12; which++) {
            long before = allocated();
            Ballothall hall = fill(8);
            for (int i = 0; i < (CALLS - CALLS_OF_FILL) / CALLS_OF_KIND[which]; i++) {
                call(hall, which, i);
            }
            long bytes = allocated() - before;
            check.same("512 calls of the kind " + which + ": " + bytes + " bytes are few", bytes < MOST_BYTES, true);
        }
        Ballothall five = fill(5);
        long before = allocated();
        for (int i = 0; i < 100; i++) {
            five.gain(i % 5);
        }
        long bytes = allocated() - before;
        check.same("100 calls of gain(): " + bytes + " bytes are few", bytes < MOST_BYTES, true);
        check.end();
    }
}
