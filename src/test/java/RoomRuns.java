import java.lang.management.ManagementFactory;

/** Dear calls again and again: none of them makes an object, and a run of the dearest ones ends soon. */
public final class RoomRuns {

    private static final int CALLS = 3000;

    public static void main(String[] args) {
        OceanMail x = busyOffice();
        long sum = dearCalls(x, CALLS);
        long before = madeSoFar();
        sum += dearCalls(x, CALLS);
        long made = madeSoFar() - before;
        System.out.println("bytes made by " + CALLS + " rounds of dear calls: " + made + " (sum " + sum + ")");
        // What the measuring makes by itself stays far below one small object a round.
        if (made > CALLS * 8L) {
            System.out.println("calls make objects");
            System.exit(1);
        }
        before = madeSoFar();
        OceanMail[] many = new OceanMail[100];
        for (int k = 0; k < many.length; k++) many[k] = new OceanMail();
        long each = (madeSoFar() - before) / many.length;
        System.out.println("bytes of one office: " + each);
        if (each > 40000) {
            System.out.println("an office is too large");
            System.exit(1);
        }
    }

    private static long madeSoFar() {
        com.sun.management.ThreadMXBean threads = (com.sun.management.ThreadMXBean) ManagementFactory.getThreadMXBean();
        return threads.getThreadAllocatedBytes(Thread.currentThread().getId());
    }

    /** Ten voyages that wait for one another for thousands of hours under the longest contracts. */
    private static OceanMail busyOffice() {
        OceanMail x = new OceanMail();
        for (int p = 0; p < 12; p++) x.passage(p % 8, (p + 1) % 8, 500 + p);
        for (int v = 0; v < 10; v++) {
            x.voyage(v % 4, 0, 1 + v, 1, 100 * v);
            for (int l = 0; l < 6; l++) x.leg(v, l % 2 == 0 ? 0 : 8);
        }
        for (int v = 0; v < 10; v++) {
            for (int i = 0; i < 2; i++) x.meet(v, i, (v + 1) % 10, 6 - i);
        }
        for (int line = 0; line < 4; line++) tell(x, line);
        return x;
    }

    private static void tell(OceanMail x, int line) {
        for (int k = 0; k < 10; k++) {
            if (k == 0) x.feed(word("W999"), word("9:m<"), word("12&t"), word("<999"), word("|l<9"));
            else x.feed(word("|t=9"), word("|l=9"), word("|t=7"), word("|l=5"), word("&m>1"));
        }
        if (x.contract(line, 200) != 1) throw new IllegalStateException("a fault at " + x.fault(1));
    }

    private static int word(String four) {
        return four.charAt(0) << 24 | four.charAt(1) << 16 | four.charAt(2) << 8 | four.charAt(3);
    }

    private static long dearCalls(OceanMail x, int rounds) {
        long sum = 0;
        for (int k = 0; k < rounds; k++) {
            tell(x, k % 4);
            x.broken(k % 10, k % 6, k % 500);
            x.wind(k % 12, k % 12, k % 50);
            sum += x.truth(k % 10, k % 7, 0) + x.share(k % 10, 1 + k % 6, k % 4) + x.owed(k % 4);
            sum += x.first(k % 3, (k + 1) % 3, k % 2000, true) + x.last(k % 3, (k + 1) % 3, 20000 - k, true) + x.ride(0, 0);
        }
        return sum;
    }
}
