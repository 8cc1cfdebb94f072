import java.util.ArrayList;
import java.util.List;
import java.util.TreeSet;

/** What the boundary tests share: a sentence that is asked, what is due, and what is refused and changes nothing. */
final class Bounds {
    static final int U = MendedOrNew.UNKNOWN, O = MendedOrNew.OUTSIDE, S = MendedOrNew.STATE, F = MendedOrNew.FULL,
            NO = MendedOrNew.NONE;
    static final int LOW = Integer.MIN_VALUE, HIGH = Integer.MAX_VALUE;
    static final long HEAVIEST = 1000000000000000L;

    interface Setup {
        MendedOrNew make();
    }

    interface Call {
        long on(MendedOrNew x);
    }

    interface CallBy {
        long on(MendedOrNew x, int v);
    }

    interface Told {
        long on(MendedOrNew x, boolean upper);
    }

    private static final TreeSet<Integer> PROMISES = new TreeSet<>();
    private static String sentence = "";
    private static int asked;
    private static int sentences;
    private static int wrong;

    private Bounds() {
    }

    /** The rows behind this are about one sentence of the document. */
    static void promise(int number, String words) {
        PROMISES.add(number);
        sentence = "promise " + number + ", \"" + words + "\"";
        asked = 0;
        sentences++;
    }

    static void due(long got, long want) {
        asked++;
        if (got != want) {
            say("answered " + got + ", due is " + want);
        }
    }

    private static void say(String what) {
        wrong++;
        System.out.println(sentence + ", row " + asked + ": " + what);
    }

    static void fraction(MendedOrNew x, Told call, long above, long below) {
        due(call.on(x, true), above);
        due(call.on(x, false), below);
    }

    /** Its answer is due, and the object is then like a twin that was not asked. */
    static void refused(Setup setup, Call call, long want) {
        MendedOrNew x = setup.make();
        due(call.on(x), want);
        List<Long> is = allOf(x);
        List<Long> was = allOf(setup.make());
        if (!is.equals(was)) {
            say("the call changed something:\n  was " + was + "\n  is  " + is);
        }
    }

    /** A refused fraction is told alike above and below. */
    static void refusedFraction(Setup setup, Told call, long want) {
        refused(setup, x -> call.on(x, true), want);
        refused(setup, x -> call.on(x, false), want);
    }

    /** From low to high a number is not refused; on both sides of them it is, and far away. */
    static void range(Setup setup, int low, int high, int refusal, CallBy call) {
        for (int v = low; v <= high; v++) {
            asked++;
            if (call.on(setup.make(), v) == refusal) {
                say(v + " was refused by " + refusal);
            }
        }
        for (int v : new int[] {low - 1, high + 1, LOW, HIGH, low - 256, high + 256}) {
            refused(setup, x -> call.on(x, v), refusal);
        }
    }

    /** As range, for a fraction's call. */
    static void rangeFraction(Setup setup, int low, int high, int refusal, CallBy above, CallBy below) {
        range(setup, low, high, refusal, above);
        range(setup, low, high, refusal, below);
    }

    // ---- objects

    static void type(MendedOrNew x, String text) {
        x.wipe();
        append(x, text);
    }

    static void append(MendedOrNew x, String text) {
        for (int i = 0; i < text.length(); i += 8) {
            int n = Math.min(8, text.length() - i);
            long v = 0;
            for (int j = 0; j < n; j++) {
                v = v << 8 | text.charAt(i + j);
            }
            x.write(n, v);
        }
    }

    static MendedOrNew with(String... texts) {
        MendedOrNew x = new MendedOrNew();
        for (int i = 0; i < texts.length; i++) {
            type(x, texts[i]);
            due(x.make(i), texts[i].charAt(1) - '0');
        }
        return x;
    }

    static void days(MendedOrNew x, int machine, int n) {
        for (int i = 0; i < n; i++) {
            due(x.day(machine), 1);
        }
    }

    static void silence(MendedOrNew x, int machine, int n) {
        for (int i = 0; i < n; i++) {
            due(x.hear(machine, false), 1);
        }
    }

    static void weights(MendedOrNew x, int machine, long... want) {
        for (int i = 0; i < want.length; i++) {
            due(x.weight(machine, i), want[i]);
        }
        due(x.weight(machine, want.length), U);
    }

    static void rows(MendedOrNew x, int... rows) {
        x.unlog();
        for (int i = 0; i < rows.length; i++) {
            due(x.log(rows[i]), i + 1);
        }
    }

    static int[] same(int row, int times) {
        int[] all = new int[times];
        java.util.Arrays.fill(all, row);
        return all;
    }

    static void acts(MendedOrNew x, int rule, int... want) {
        for (int wear = 0; wear < 8; wear++) {
            int act = x.rule(rule, wear, 0);
            due(act, wear < want.length ? want[wear] : 0);
            x.rule(rule, wear, act);
        }
    }

    /** 0 to 1 by 5 tenths, 1 to 2 by 2; days cost 0, 3, 30; MENDING 0 to WEAR 0 for 5, 1 to WEAR 1 for 20. */
    static final String PUMP = "N3S015S122C103C230K16K29M0005M1120L4";
    static final String LEAK = "N2S013";
    static final String LATHE = "N4S011S022S123S234C199C310K05M0001M3207";

    /** An object in which nothing is as at first: three MACHINES, THOUGHTS, RULES, a LOG, SLOT 0, a TEXT. */
    static MendedOrNew workshop() {
        MendedOrNew x = new MendedOrNew();
        String[] texts = {PUMP, LEAK, LATHE};
        for (int i = 0; i < 3; i++) {
            type(x, texts[i]);
            x.make(i);
        }
        x.day(2);
        x.log(0);
        x.log(2);
        x.keep(0);
        x.day(0);
        x.day(0);
        x.day(1);
        x.hear(2, false);
        x.unlog();
        x.log(1);
        x.log(0);
        x.log(0);
        for (int rule = 0; rule < 4; rule++) {
            x.put(2, rule, 7 + 111 * rule);
            x.rule(rule, 7, rule);
        }
        type(x, "N3S019C277K08M2131L0");
        return x;
    }

    // ---- all that can be seen of an object

    /** Ends the object's use: what is in the SLOTS and in THE TEXT is seen by taking it. */
    private static List<Long> allOf(MendedOrNew x) {
        List<Long> all = new ArrayList<>();
        add(all, x.count(0), x.count(1), x.count(2), x.fault());
        for (int m = 0; m < 3; m++) {
            addMachine(all, x, m);
        }
        addThoughts(all, x);
        for (int rule = 0; rule < 4; rule++) {
            for (int wear = 0; wear < 8; wear++) {
                add(all, x.rule(rule, wear, 0));
            }
        }
        addLog(all, x);
        for (int slot = 0; slot < 2; slot++) {
            add(all, x.again(slot), x.count(1));
            addThoughts(all, x);
            addLog(all, x);
        }
        add(all, x.make(0));
        addMachine(all, x, 0);
        add(all, x.wipe());
        return all;
    }

    private static void add(List<Long> all, long... answers) {
        for (long a : answers) {
            all.add(a);
        }
    }

    private static void addMachine(List<Long> all, MendedOrNew x, int m) {
        int wears = x.about(m, 0);
        add(all, wears, x.about(m, 1), x.about(m, 2));
        for (int wear = 0; wear < wears; wear++) {
            add(all, x.worn(m, wear, 0), x.worn(m, wear, 1));
            for (int to = wear; to < wears; to++) {
                add(all, x.goes(m, wear, to));
            }
        }
        for (int i = 0; i < 4; i++) {
            add(all, x.mending(m, i, 0), x.mending(m, i, 1));
        }
    }

    private static void addThoughts(List<Long> all, MendedOrNew x) {
        for (int m = 0; m < 3; m++) {
            int wears = x.about(m, 0);
            for (int wear = 0; wear < wears; wear++) {
                add(all, x.weight(m, wear));
            }
        }
    }

    /** A row tells itself by when, and by what THE LOG comes to. */
    private static void addLog(List<Long> all, MendedOrNew x) {
        for (int m = 0; m < 3; m++) {
            add(all, x.late(m, 1, 40), x.read(m), x.weight(m, 0), x.weight(m, 1));
        }
    }

    static void end() {
        for (int i = 1; i <= 39; i++) {
            if (!PROMISES.contains(i)) {
                wrong++;
                System.out.println("promise " + i + " has no boundary test");
            }
        }
        System.out.println(wrong == 0 ? sentences + " boundaries hold" : wrong + " answers at boundaries are not as due");
        if (wrong != 0) {
            System.exit(1);
        }
    }
}
