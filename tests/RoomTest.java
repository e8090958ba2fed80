import java.lang.management.ManagementFactory;

/** What an object and its dearest calls take of the room that all calls of a run share, and that these calls end soon. */
public final class RoomTest {
    private static final String DEAR = "thing a;thing b;thing c;thing d;thing e;thing f;thing g;thing ab;"
        + "means a;means b;means c;means d;means e;means f;means g;means h;means ab;means -;means ac;means ad;"
        + "word 10;word 11;word 0;word 1;"
        + "proud unlike;proud;last unlike;careful sees abc;careful;plain;";

    public static void main(String[] args) {
        com.sun.management.ThreadMXBean room = (com.sun.management.ThreadMXBean) ManagementFactory.getThreadMXBean();
        long me = Thread.currentThread().getId();
        calls(new FirstWords());
        long before = room.getThreadAllocatedBytes(me);
        FirstWords x = new FirstWords();
        long made = room.getThreadAllocatedBytes(me) - before;
        Check.holds("an object takes " + made + " bytes", made < 60_000);
        Check.tell(x, DEAR);
        before = room.getThreadAllocatedBytes(me);
        calls(x);
        long taken = room.getThreadAllocatedBytes(me) - before;
        Check.holds("calls take " + taken + " bytes", taken < 20_000);
        Check.finish();
    }

    private static void calls(FirstWords x) {
        for (int i = 0; i < 400; i++) {
            switch (i % 8) {
                case 0 -> x.teaching(63, i / 8 % 4, 0);
                case 1 -> x.order(63, 0);
                case 2 -> x.ask(2);
                case 3 -> x.sure(i / 8 % 4, 1);
                case 4 -> x.teaching(1 << i / 8 % 6, i / 8 % 4, 10);
                case 5 -> x.keep(i / 8 % 2);
                case 6 -> x.show(i / 8 % 4, i / 8 % 8, i % 16 > 7);
                default -> x.back(i / 8 % 2);
            }
        }
    }
}
