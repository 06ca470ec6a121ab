import java.lang.management.ManagementFactory;
import java.util.Random;

/** No call makes an object, and none throws, whatever its arguments are. */
public final class RoomTest {
    private static final int CALLS = 512;
    private static final com.sun.management.ThreadMXBean THREADS =
        (com.sun.management.ThreadMXBean) ManagementFactory.getThreadMXBean();
    private static final long THREAD = Thread.currentThread().getId();
    private static final int[] ODD = {Integer.MIN_VALUE, -100, -15, -3, -2, -1, 0, 1, 2, 3, 5, 9, 10, 11, 12, 13, 23, 24,
        39, 40, 41, 64, 65, 100, 101, 4095, 4096, 9999, 65535, 99999, 100000, 1000000, Integer.MAX_VALUE};

    private RoomTest() {
    }

    public static void main(String[] args) {
        long sum = 0;
        long made = 0;
        for (int seed = 0; seed < 400; seed++) {
            Random random = new Random(seed);
            PulledToAHair x = new PulledToAHair();
            int[] numbers = new int[CALLS * 5];
            for (int i = 0; i < numbers.length; i++) {
                numbers[i] = random.nextInt(3) == 0 ? ODD[random.nextInt(ODD.length)] : random.nextInt(12);
            }
            long before = allocated();
            for (int i = 0; i < CALLS; i++) {
                sum += call(x, i, numbers);
            }
            made += seed == 0 ? 0 : allocated() - before;
        }
        // one object at each call of one kind would be some 70000 bytes; the machine itself makes a few
        if (made > 20000) {
            System.out.println("RoomTest: the calls made " + made + " bytes");
            System.exit(1);
        }
        System.out.println("RoomTest: no call made an object, none threw (" + made + " bytes, " + sum + ")");
    }

    private static long allocated() {
        return THREADS.getThreadAllocatedBytes(THREAD);
    }

    private static long call(PulledToAHair x, int i, int[] numbers) {
        int a = numbers[5 * i];
        int b = numbers[5 * i + 1];
        int c = numbers[5 * i + 2];
        int d = numbers[5 * i + 3];
        int e = numbers[5 * i + 4];
        switch (i % 46) {
            case 0: return x.roll(a, b, c);
            case 1: return x.set(a, b);
            case 2: return x.count(a);
            case 3: return x.feed(0x64_72_61_77_20_31_3b_00L + a, 8);
            case 4: return x.text();
            case 5: return x.force(a);
            case 6: case 7: case 8: return x.step(a, b, c);
            case 9: return e % 5 == 0 ? x.forget() : x.feed(a, b);
            case 10: return x.stepTold(a, b);
            case 11: return x.rope(a, b, c);
            case 12: return x.state(a, b);
            case 13: return x.whole(a, b);
            case 14: return x.stop(a);
            case 15: return x.worst();
            case 16: return x.window(a, b);
            case 17: return x.pace(a, b, c);
            case 18: return x.rest(a, b, c);
            case 19: return x.dust(a, b);
            case 20: return x.doublings(a, b, c);
            case 21: return x.judge(a, b, c);
            case 22: return x.film(a, b);
            case 23: return x.serves(a, b, c);
            case 24: return x.which(a, b);
            case 25: return x.fault(a, b);
            case 26: return x.uneven(a, b);
            case 27: return x.cooks(a, b, c);
            case 28: return x.pot(a);
            case 29: return x.place(a, b);
            case 30: return x.apart(a, b, c);
            case 31: return x.parted(a, b, c);
            case 32: return x.round(a);
            case 33: return x.colours(a, b, c);
            case 34: return x.thin(a, b, c);
            case 35: return x.odds(a, b, c, d);
            case 36: return x.record(a, b, c);
            case 37: return x.drawn(a, b, c, d);
            case 38: return x.image();
            case 39: return x.back();
            case 40: return x.sheet(a, b, c);
            case 41: return x.cell(a, b, c);
            case 42: return x.copy(a, b, c, d, e);
            case 43: return x.stepsBy(a, b, c, d);
            case 44: return x.taken(a, b);
            default: return x.film(a, b % 4);
        }
    }
}
