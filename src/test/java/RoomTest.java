import com.sun.management.ThreadMXBean;
import java.lang.management.ManagementFactory;

/** How much a run makes: all is made with the object, but for a HOUSE at each house() and a RULE at six rule(). */
final class RoomTest {
    private static final ThreadMXBean BEAN = (ThreadMXBean) ManagementFactory.getThreadMXBean();
    private static final String DEAR = "house 20" + ";thing 1 0 9".repeat(7) + ";heir 0 1".repeat(7)
        + ";cousins 0 1;cousins 1 2;cousins 2 3;knows 0 0 1 99;knows 1 0 2 99;knows 2 0 2 99;knows 3 6 1 9";
    private static int sum = 0;

    private RoomTest() {
    }

    public static void main(String[] args) {
        // The first calls load classes and the means to measure.
        made(new ForgetHeirs(), 2);
        long before = bytes();
        ForgetHeirs x = new ForgetHeirs();
        long object = bytes() - before;
        System.out.println("a new object: " + object + " bytes");
        Due.due("a new object is small", object < 60000, true);
        Due.type(x, DEAR);
        x.house();
        Due.type(x, "fade 1 if [year < 1000 or not heir = 2] and same + known * 2 > 100;fade 0");
        x.rule();
        x.force(0);
        long calls = made(x, 500);
        System.out.println("500 of each call that makes nothing: " + calls + " bytes");
        Due.due("calls make nothing", calls < 4096, true);
        before = bytes();
        for (int i = 0; i < 500; i++) {
            x.feed(0x686f7573, 0x65203520, 0x20202020, 0x20202020, 0x20202020);
            sum += x.house();
        }
        long houses = bytes() - before;
        System.out.println("500 houses: " + houses + " bytes");
        Due.due("houses make little", houses < 500 * 400, true);
        Due.due("all answered", sum != 0, true);
        Due.end("RoomTest");
    }

    private static long bytes() {
        return BEAN.getThreadAllocatedBytes(Thread.currentThread().getId());
    }

    private static long made(ForgetHeirs x, int times) {
        long before = bytes();
        for (int i = 0; i < times; i++) {
            sum += x.ahead(0, 200) + x.strike(0) + x.inherits(0) + x.longest() + x.fields(200) + x.falls(1)
                + x.examine(2) + x.likeliest(0, 1) + x.parts(127, 1) + x.ways(0) + x.taught(1, 0)
                + x.prompts(0, 0, 40) + x.cost(0) + x.drawn(10, 60, 1) + x.count(8) + x.seed(i)
                + x.heir(0, 5) + x.thing(0, 6) + x.knows(0, 0, 1);
            sum += x.year() + x.tell(1, 2, 0, true) + x.prompt(0, 0) + x.ask(0, 0) + (x.burn(0) ? 1 : 0)
                + x.undo() + x.image(i % 4) + x.back(i % 4) + x.force(0) + x.feed(1, 2, 3, 4, 5) + x.end(0);
        }
        return bytes() - before;
    }
}
