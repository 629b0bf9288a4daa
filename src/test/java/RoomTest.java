import com.sun.management.ThreadMXBean;
import java.lang.management.ManagementFactory;

/** The room is counted: an object is small, and not one of its calls makes anything, the dearest ones least of all. */
public final class RoomTest {
    private static final ThreadMXBean THREADS = (ThreadMXBean) ManagementFactory.getThreadMXBean();
    private static CliffGarden garden;
    private static long sum;

    public static void main(String[] args) {
        build();
        long atFirst = made();
        build();
        long object = made() - atFirst;
        calls();
        long before = made();
        calls();
        long inCalls = made() - before;
        System.out.println("an object takes " + object + " bytes, a run of its calls " + inCalls + " (" + sum + ")");
        if (object > 100000 || inCalls > 2000) {
            System.exit(1);
        }
    }

    private static long made() {
        return THREADS.getThreadAllocatedBytes(Thread.currentThread().getId());
    }

    private static void build() {
        garden = new CliffGarden();
    }

    private static void calls() {
        String text = "gw*2+[k+1]%7(r=0|!p=1);f300(r=1);a3(1=1);c1(l=2);ot(1=1);qb*y(b>0)";
        for (int c = 0; c < 8; c++) {
            for (int l = 0; l < 6; l++) {
                garden.hang(c, l, 1, 9000, c, l % 4);
                if (l < 4) {
                    garden.plant(c, l, (c + l) % 6, 40);
                }
            }
            garden.rope(c, 500, c);
            garden.valve(c, 30);
        }
        for (int i = 0; i < text.length(); i += 20) {
            int[] five = FIVES[i / 20];
            for (int j = 0; j < 20; j++) {
                five[j / 4] = five[j / 4] << 8 | (i + j < text.length() ? text.charAt(i + j) : 'z');
            }
            garden.feed(five[0], five[1], five[2], five[3], five[4]);
        }
        sum += garden.law(text.length());
        sum += garden.drought(36, 0b01010101, -1);
        sum += garden.work(1, 4, 0b1000001000001000001000001000001000001000001L, -1);
        sum += garden.planted(0b110000110000110000L, -1);
        sum += garden.planted(0b010000110000110000L, -1);
        sum += garden.pollen(0, 7, 1, 12, 0);
        sum += garden.torn(4, 0);
        sum += garden.fall(3, 1);
        sum += garden.right(0, 255);
        for (int i = 0; i < 10; i++) {
            sum += garden.day();
        }
        garden.knot(4, 0, 0);
        sum += garden.go();
        sum += garden.mended(63L << 24, -1);
        sum += garden.hail(63);
        sum += garden.check(0, 0);
        sum += garden.count(0);
    }

    private static final int[][] FIVES = new int[11][5];
}
