import java.lang.management.ManagementFactory;
import java.util.Random;

/** That no call throws or makes objects, whatever it is asked, and that an object is small. */
public final class RoomTest {
    private static final int[] ODD = {Integer.MIN_VALUE, -10, -9, -1, 0, 1, 2, 3, 4, 5, 7, 8, 9, 10, 64, 101,
        390625, 1 << 30, Integer.MAX_VALUE};
    private static final String[] TEXTS = {
        "N8S015S021S122S233S341S452S565S674C799C650M0090M1150K79K68L1", "N5S012S123S234S341C499M0010M1120M2230L0",
        "N4S015S125S235C399M0010M1020M2130M3250K31K22L3", "N2S011C199M0099K19L0"};
    private static final Random R = new Random(11);

    private static int odd() {
        return R.nextInt(4) == 0 ? ODD[R.nextInt(ODD.length)] : R.nextInt(4);
    }

    private static long anyCall(MendedOrNew x, int c) {
        int a = odd(), b = odd(), d = odd(), e = odd(), f = odd();
        boolean u = R.nextBoolean();
        switch (c) {
            case 0: return x.write(a, R.nextLong());
            case 1: return x.fault();
            case 2: return x.make(a);
            case 3: return x.about(a, b);
            case 4: return x.worn(a, b, d);
            case 5: return x.goes(a, b, d);
            case 6: return x.mending(a, b, d);
            case 7: return x.day(a);
            case 8: return x.hear(a, u);
            case 9: return x.mend(a, b);
            case 10: return x.look(a, b);
            case 11: return x.weight(a, b);
            case 12: return x.chance(a, b, u);
            case 13: return x.knock(a, u);
            case 14: return x.likely(a);
            case 15: return x.life(a, b, u);
            case 16: return x.rule(a, b, d);
            case 17: return x.cost(a, b, u);
            case 18: return x.which(a, b, d);
            case 19: return x.best(a);
            case 20: return x.bestCost(a, u);
            case 21: return x.put(a, b, d);
            case 22: return x.barCost(a, b, d, u);
            case 23: return x.bar(a);
            case 24: return x.plan(a, b, d, e, f, u);
            case 25: return x.planAct(a, b, d, e, f);
            case 26: return x.unseen(a, b, u);
            case 27: return x.unseenAct(a, b);
            case 28: return x.two(a, b, d, e, f, u);
            case 29: return x.whom(a, b, d, e, f);
            case 30: return x.log(a);
            case 31: return x.unlog();
            case 32: return x.read(a);
            case 33: return x.late(a, b, d);
            case 34: return x.keep(a);
            case 35: return x.again(a);
            case 36: return x.count(a);
            default: return x.wipe();
        }
    }

    private static void type(MendedOrNew x, String text) {
        x.wipe();
        for (int i = 0; i < text.length(); i++) {
            x.write(1, text.charAt(i));
        }
    }

    private static long bytesMade() {
        return ((com.sun.management.ThreadMXBean) ManagementFactory.getThreadMXBean())
                .getThreadAllocatedBytes(Thread.currentThread().getId());
    }

    private static long sum;

    private static void oddRun(MendedOrNew x) {
        for (int m = 0; m < 3; m++) {
            type(x, TEXTS[R.nextInt(TEXTS.length)]);
            sum += x.make(m);
        }
        for (int i = 0; i < 400; i++) {
            sum += anyCall(x, R.nextInt(38));
        }
    }

    public static void main(String[] args) {
        // Once ahead of the count, since loading classes takes room too.
        oddRun(new MendedOrNew());
        bytesMade();
        long before = bytesMade();
        MendedOrNew x = new MendedOrNew();
        long size = bytesMade() - before;
        long calls = 0;
        for (int i = 0; i < 300; i++) {
            x = new MendedOrNew();
            before = bytesMade();
            oddRun(x);
            calls = Math.max(calls, bytesMade() - before);
        }
        type(x, "N5S012S123S234S341C499M0010M1120M2230L0");
        for (int i = 0; i < 200; i++) {
            sum += x.make(i % 3) + x.best(i % 3) + x.unseen(i % 3, 3, true);
        }
        System.out.println("an object takes " + size + " bytes, a run of calls makes " + calls + " (sum " + sum + ")");
        if (size > 20000 || calls > 2000) {
            System.out.println("that is too much");
            System.exit(1);
        }
    }
}
