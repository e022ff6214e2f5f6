import java.lang.management.ManagementFactory;

/** An office makes its rows once: its calls make nothing more. */
public final class RoomTest {
    private static final com.sun.management.ThreadMXBean THREADS =
        (com.sun.management.ThreadMXBean) ManagementFactory.getThreadMXBean();

    private static long made() {
        return THREADS.getThreadAllocatedBytes(Thread.currentThread().getId());
    }

    /** The words of the text as the fours of appendInput, 45 rows of five. */
    private static int[] fours(String text) {
        int[] fours = new int[225];
        for (int i = 0; i < 900; i++) {
            fours[i / 4] = fours[i / 4] << 8 | (i < text.length() ? text.charAt(i) : ' ');
        }
        return fours;
    }

    private static long callAll(PlaceOffice o, int[] fours) {
        long sum = 0;
        for (int i = 0; i < fours.length; i += 5) {
            sum += o.appendInput(fours[i], fours[i + 1], fours[i + 2], fours[i + 3], fours[i + 4]);
        }
        sum += o.loadOffice();
        sum += o.allocate() + o.appeal(37, 0) + o.addChild(1, 2, 3, true, 21) + o.moveHome(0, 50, 50);
        sum += o.setCapacity(0, 3) + o.withdraw(1) + o.giveBack(o.holder(0, 0)) + (o.setLate(true) ? 1 : 0);
        for (int child = 0; child < 39; child++) {
            sum += o.neededCapacity(child, 0) + o.gainersWithout(child) + o.bestByOrder(child);
            sum += o.chainOf(child) + o.tradePartner(child) + o.siblings(child) + o.nearest(child);
            sum += o.placeWith(child, 1, 9) + o.waitingPlace(child, 0) + (o.hasClaim(child, 0) ? 1 : 0);
            sum += (long) o.way(child);
        }
        sum += o.triesOf(0) + o.changedByAllocation() + o.claims() + o.trades() + o.together();
        sum += o.printSchool(0) + o.outputByte(3) + o.waiting(0, 2) + o.mostWaited() + o.cutoff(0, 1);
        sum += (long) (o.meanWay() + o.meanPreference() + o.firstShare());
        return sum + o.saveState() + o.undo() + o.restoreState();
    }

    public static void main(String[] args) {
        int[] fours = fours("school a 2 1 1 zone care;school b 2 5 5;zone a 0 0 3 3;appeals 9;"
            + "child1 1prefers a b;".repeat(39));
        long empty = made();
        empty = made() - empty;
        PlaceOffice warm = new PlaceOffice();
        callAll(warm, fours);
        long before = made();
        PlaceOffice office = new PlaceOffice();
        long maker = made() - before - empty;
        Check.is("an office takes less than 40,000 bytes: " + maker, maker > 0 && maker < 40_000, true);
        before = made();
        long sum = callAll(office, fours);
        long calls = made() - before - empty;
        // The machine itself may make a little beside.
        Check.is("the calls (" + sum + ") make nothing: " + calls, calls < 256, true);
        Check.finish("RoomTest");
    }
}
