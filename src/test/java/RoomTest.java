import java.lang.management.ManagementFactory;

/** All calls of a run live in one room: a new object makes little, and the dearest calls make nothing. */
public final class RoomTest {
    private static final com.sun.management.ThreadMXBean THREADS =
        (com.sun.management.ThreadMXBean) ManagementFactory.getThreadMXBean();

    public static void main(String[] args) {
        Check check = new Check();
        for (int warm = 0; warm < 3; warm++) {
            bytesOfRun();
        }
        long bytes = bytesOfRun();
        System.out.println(bytes + " bytes made by a run of 512 calls");
        check.same("a run makes no more than 200000 bytes", bytes <= 200000 ? 1 : 0, 1);
        check.end();
    }

    private static long bytesOfRun() {
        long before = THREADS.getCurrentThreadAllocatedBytes();
        VerandaTalk x = new VerandaTalk();
        int calls = 0;
        for (int kind = 0; kind < 6; kind++, calls++) {
            x.matter(kind, kind);
        }
        x.see(0, 20, true);
        String text = "due 40;warm 9 !(p=1&k<3|(v>2&a=4))&n<1;cool 3 e=4;warm 2 p=2";
        for (int i = 0; i < text.length(); i++, calls++) {
            x.feed(text.charAt(i));
        }
        x.station();
        x.plan(0, 0);
        for (calls += 3; calls < 512; calls += 8) {
            x.agenda(4, 0);
            x.dues(0);
            x.firm(0, 1);
            x.odds(5, 60, 0);
            x.told(8);
            x.image();
            x.undo();
            x.done(0);
        }
        return THREADS.getCurrentThreadAllocatedBytes() - before;
    }
}
