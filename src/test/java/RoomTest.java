import java.lang.management.ManagementFactory;
import java.util.function.Consumer;

/** What calls make is never given back where the class runs: each must make next to nothing. */
public final class RoomTest {
    private static int wrong = 0;

    public static void main(String[] args) {
        com.sun.management.ThreadMXBean meter = (com.sun.management.ThreadMXBean) ManagementFactory.getThreadMXBean();
        if (!meter.isThreadAllocatedMemorySupported()) {
            System.out.println("this machine does not tell what is made");
            return;
        }
        measure(meter, "a new object", 40000, x -> new MemoryHouse());
        String law = "add 1 if age+age+age+age+age+age+age+age+age+age+age+age+age+age+age+age+age+age+age+age+age+age"
                + "+age+age+age+age+age+age+age+age+age+age+age+age+age+age+age+age+age+age+age+age+age+age+age+age<1";
        measure(meter, "a law that is long", 4000, x -> {
            feed(x, law);
            x.law();
            x.back();
        });
        measure(meter, "go, say, run", 100, x -> {
            x.go(0, 1);
            x.say(0, 0, 9);
            x.run(0, 0, 7);
            x.kinds(0, 3);
            x.odds(0, 0, 0, 1, true);
        });
        measure(meter, "what is reckoned", 100, x -> {
            x.awaited(0, 0);
            x.again(0, 0, 6, 900, true);
            x.plan(0, 62, 3, 1, 1);
            x.per(0, 0, 0, 90, true);
            x.change(0);
            x.dullest();
            x.guess(0, 0, 1);
            x.lacks(0, 0);
            x.risk(3, true);
            x.rates(9, 3);
            x.last(0, 1, 100);
            x.houses(0, 60, 1, 99);
            x.unlike(3, true);
            x.fits(0, 100);
        });
        measure(meter, "the image, a second time", 100, x -> {
            x.image();
            x.back();
        });
        if (wrong != 0) {
            System.exit(1);
        }
    }

    private static void feed(MemoryHouse x, String text) {
        for (int at = 0; at < text.length(); at += 20) {
            int[] n = new int[5];
            for (int k = 0; k < 20; k++) {
                n[k / 4] |= (at + k < text.length() ? text.charAt(at + k) : ' ') << (24 - 8 * (k % 4));
            }
            x.feed(n[0], n[1], n[2], n[3], n[4]);
        }
    }

    private static void measure(com.sun.management.ThreadMXBean meter, String what, long most, Consumer<MemoryHouse> call) {
        MemoryHouse x = new MemoryHouse();
        for (int k = 0; k < 6; k++) {
            x.house(20);
            x.pack(5 * k, 1, 52);
            x.moment(100 + k);
        }
        feed(x, "add 90;less 1 * age;less 3 * dull");
        x.law();
        feed(x, "add 9 * right;less 1 * wrong;add 1 * blank");
        x.rule();
        x.dull(7, 0, 5);
        x.put(0, 0, 0, 3, 1);
        x.week(5);
        x.image();
        call.accept(x);
        long id = Thread.currentThread().getId();
        long before = meter.getThreadAllocatedBytes(id);
        long idle = meter.getThreadAllocatedBytes(id) - before;
        before = meter.getThreadAllocatedBytes(id);
        for (int k = 0; k < 10; k++) {
            call.accept(x);
        }
        long each = (meter.getThreadAllocatedBytes(id) - before - idle) / 10;
        System.out.println(what + " makes " + each + " bytes a time");
        if (each > most) {
            wrong++;
            System.out.println(what + ": more than " + most);
        }
    }
}
