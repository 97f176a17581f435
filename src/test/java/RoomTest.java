import java.lang.management.ManagementFactory;

/**
 * A run of the dearest calls stays far below the room that all calls of one run share: 7.3 million fields and
 * elements. A field or element takes a byte at least, so bytes are counted, and fewer than that many are asked.
 */
public final class RoomTest {
    private static final long ROOM = 7_300_000L;

    public static void main(String[] args) {
        com.sun.management.ThreadMXBean meter = (com.sun.management.ThreadMXBean) ManagementFactory.getThreadMXBean();
        dearRun();
        long before = meter.getCurrentThreadAllocatedBytes();
        dearRun();
        long used = meter.getCurrentThreadAllocatedBytes() - before;
        System.out.println("a dear run takes " + used + " bytes");
        if (used > ROOM / 2) {
            System.out.println("that is too much");
            System.exit(1);
        }
    }

    private static void type(Touchpress x, String text) {
        for (int i = 0; i < text.length(); i++) {
            x.type(text.charAt(i), 1);
        }
    }

    private static void dearRun() {
        Touchpress x = new Touchpress();
        for (int i = 0; i < 3; i++) {
            x.code();
        }
        for (int book = 0; book < 4; book++) {
            x.book(0, 3, 40, 3, false);
            for (int i = 0; i < 10; i++) {
                x.type(0x7c617c617c617c61L, 8);
                x.type(0x617c617c617c61L, 7);
                x.add(book);
            }
        }
        for (int i = 0; i < 20; i++) {
            x.emboss(i % 3, i % 4);
        }
        type(x, "(a+b)/c^(1234-d)");
        for (int i = 0; i < 40; i++) {
            x.formulaCells(1);
            x.isReadBack(1);
        }
        x.wipe();
        type(x, "*ABCDEFGHIJ,");
        for (int i = 0; i < 40; i++) {
            x.size(0, 3);
            x.ways(0, 3);
            x.readings(0, 3);
            x.ofCopy(i % 20, 2);
        }
        x.reader(0);
        x.wish(0, 0);
        for (int i = 0; i < 10; i++) {
            x.pass(100);
        }
    }
}
