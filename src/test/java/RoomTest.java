import java.lang.management.ManagementFactory;

/** What a run makes stays far below the room that all its calls have together. */
final class RoomTest {
    private static final long ROOM_IN_BYTES = 7300000L * 4;
    private static final com.sun.management.ThreadMXBean BEAN =
            (com.sun.management.ThreadMXBean) ManagementFactory.getThreadMXBean();
    private static final String DEAR = "farm 1 for all;farm min(debt,9)/2 for not shire 3;pardon 1 in 9 for debt>5;"
            + "split 3 for paid<7;allow 1 for all or term=3;farm debt/9 blanched for [1<2];split 2 for all;farm 7 for all;";

    public static void main(String[] args) {
        run(new ChequeredCloth(), 512);
        long before = made();
        ChequeredCloth x = new ChequeredCloth();
        long object = made() - before;
        before = made();
        run(x, 512);
        long calls = made() - before;
        x = new ChequeredCloth();
        run(x, 256);
        before = made();
        dearCalls(x);
        long dear = made() - before;
        System.out.println("bytes of an object " + object + ", of its 512 calls " + calls + ", of none but tellings " + dear);
        Check.due("an object is a hundredth of the room", object < ROOM_IN_BYTES / 100, true);
        Check.due("its calls are a tenth of the room", calls < ROOM_IN_BYTES / 10, true);
        Check.due("calls that tell nothing new make nothing", dear < 2000, true);
        Check.close("RoomTest");
    }

    private static long made() {
        return BEAN.getThreadAllocatedBytes(Thread.currentThread().getId());
    }

    /** At most so many calls; each WRIT with what is asked then takes sixteen. */
    private static void run(ChequeredCloth x, int calls) {
        int i = 0;
        for (int k = 0; k < 10; k++, i += 2) {
            x.cut(false, k, k, 2);
            x.cut(true, k, k + 1, 2);
        }
        while (i + 16 <= calls) {
            for (int j = 0; j < DEAR.length(); j += 20, i++) {
                x.feed(Texts.word(DEAR, j), Texts.word(DEAR, j + 4), Texts.word(DEAR, j + 8),
                        Texts.word(DEAR, j + 12), Texts.word(DEAR, j + 16));
            }
            Check.due("writ", x.writ(i % 40) > 0, true);
            x.pays(0, i % 40, i);
            x.tally(0, i % 40, i % 10);
            x.slip(0, 39, i);
            x.since(0, 39);
            x.owed(39);
            i += 6;
        }
    }

    private static void dearCalls(ChequeredCloth x) {
        for (int i = 0; i < 256 / 8; i++) {
            x.wear(i % 20, 8, 20);
            x.mate(0);
            x.roll(i % 8, 39, 0);
            x.slip(0, 39, -i);
            x.steps(i * 1000000);
            x.lay(i);
            x.draw(i);
            x.force(i % 40);
        }
    }
}
