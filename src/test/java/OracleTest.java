import java.util.ArrayList;
import java.util.HashMap;
import java.util.List;
import java.util.Map;
import java.util.Random;
import java.util.TreeMap;

/** Runs of calls by chance (always the same ones), each answered by the program and by the oracle. */
public final class OracleTest {
    private static final String[] NAMES = {"write", "wipe", "fault", "make", "about", "worn", "goes", "mending", "day",
        "hear", "mend", "look", "weight", "chance", "knock", "likely", "life", "rule", "cost", "which", "best",
        "bestCost", "put", "barCost", "bar", "plan", "planAct", "unseen", "unseenAct", "two", "whom", "log", "unlog",
        "read", "late", "keep", "again", "count"};

    private final Random r;
    private final MendedOrNew x = new MendedOrNew();
    private final Oracle o = new Oracle();
    private final List<String> told = new ArrayList<>();
    private static final Map<String, Integer> ANSWERS = new TreeMap<>();
    private static int wrong;
    private int calls;
    private int mendRows = 4;

    private OracleTest(long seed) {
        r = new Random(seed);
    }

    /** Mostly as asked, now and then just outside. */
    private int n(int low, int high) {
        int d = r.nextInt(40);
        return d == 0 ? low - 1 : d == 1 ? high + 1 : low + r.nextInt(high - low + 1);
    }

    private int machine() {
        return n(0, 2);
    }

    private int wear(int m) {
        return m >= 0 && m < 3 ? n(0, o.ms[m].k - 1) : n(0, 7);
    }

    private String randomText() {
        int k = 2 + (r.nextInt(3) == 0 ? r.nextInt(7) : r.nextInt(4));
        StringBuilder t = new StringBuilder("N" + k);
        int parts = 3 + r.nextInt(16);
        for (int i = 0; i < 60 && parts > 0; i++) {
            String part;
            int a = r.nextInt(k);
            switch (r.nextInt(8)) {
                case 0: case 1: case 2: part = "S" + a + Math.min(k - 1, a + 1 + r.nextInt(2)) + (1 + r.nextInt(r.nextInt(3) == 0 ? 9 : 5)); break;
                case 3: part = "S" + a + r.nextInt(k) + (1 + r.nextInt(9)); break;
                case 4: part = "C" + a + (r.nextInt(2) == 0 ? r.nextInt(10) : a) + r.nextInt(10); break;
                case 5: part = "K" + a + (1 + r.nextInt(9)); break;
                case 6: part = "M" + r.nextInt(4) + r.nextInt(k) + r.nextInt(r.nextInt(2) == 0 ? 10 : 2) + r.nextInt(10); break;
                default: part = "L" + r.nextInt(10);
            }
            if (t.length() + part.length() <= 64 && (r.nextInt(120) == 0 || Oracle.parse(t + part) != null)) {
                t.append(part);
                parts--;
            }
        }
        if (r.nextInt(12) == 0) {
            t.setCharAt(r.nextInt(t.length()), "NSCKML0123456789x".charAt(r.nextInt(17)));
        }
        if (r.nextInt(12) == 0) {
            t.setLength(r.nextInt(t.length() + 1));
        }
        return t.toString();
    }

    private void type(String t) {
        same("wipe", "", x.wipe(), o.wipe());
        int i = 0;
        while (i < t.length()) {
            int len = Math.min(t.length() - i, 1 + r.nextInt(8));
            long v = r.nextLong();
            for (int j = 0; j < len; j++) {
                v = v << 8 | t.charAt(i + j);
            }
            same("write", len + ", " + v, x.write(len, v), o.write(len, v));
            i += len;
        }
    }

    private void same(String name, String args, long got, long want) {
        calls++;
        told.add(name + "(" + args + ") = " + got);
        ANSWERS.merge(name + (want < 0 ? " " + want : ""), 1, Integer::sum);
        if (got != want && wrong++ < 5) {
            System.out.println("text " + o.text + "\n" + String.join("\n", told) + "  due is " + want);
        }
    }

    private void newMachine(int m) {
        type(randomText());
        same("fault", "", x.fault(), o.fault());
        same("make", m + "", x.make(m), o.make(m));
    }

    private void call(int c) {
        int m = machine(), w = wear(m), a = machine(), v = wear(a);
        boolean u = r.nextBoolean();
        int i = n(0, 3), j = n(0, 3), d = n(1, 8), p = n(1, 8), f = n(0, 9), what = n(0, 2), s = n(0, 1);
        String name = NAMES[c];
        switch (name) {
            case "write": { int k = n(1, 8); long t = r.nextLong(); same(name, k + ", " + t, x.write(k, t), o.write(k, t)); break; }
            case "wipe": same(name, "", x.wipe(), o.wipe()); break;
            case "fault": same(name, "", x.fault(), o.fault()); break;
            case "make": newMachine(m); break;
            case "about": same(name, m + ", " + what, x.about(m, what), o.about(m, what)); break;
            case "worn": same(name, m + ", " + w + ", " + what, x.worn(m, w, what), o.worn(m, w, what)); break;
            case "goes": { int b = wear(m); same(name, m + ", " + w + ", " + b, x.goes(m, w, b), o.goes(m, w, b)); break; }
            case "mending": { int y = n(0, 1); same(name, m + ", " + i + ", " + y, x.mending(m, i, y), o.mending(m, i, y)); break; }
            case "day": same(name, m + "", x.day(m), o.day(m)); break;
            case "hear": same(name, m + ", " + u, x.hear(m, u), o.hear(m, u)); break;
            case "mend": same(name, m + ", " + i, x.mend(m, i), o.mend(m, i)); break;
            case "look": same(name, m + ", " + w, x.look(m, w), o.look(m, w)); break;
            case "weight": same(name, m + ", " + w, x.weight(m, w), o.weight(m, w)); break;
            case "chance": same(name, m + ", " + w + ", " + u, x.chance(m, w, u), o.chance(m, w, u)); break;
            case "knock": same(name, m + ", " + u, x.knock(m, u), o.knock(m, u)); break;
            case "likely": same(name, m + "", x.likely(m), o.likely(m)); break;
            case "life": same(name, m + ", " + w + ", " + u, x.life(m, w, u), o.life(m, w, u)); break;
            case "rule": { int b = r.nextBoolean() ? w : n(0, 7), y = r.nextInt(3) == 0 ? 0 : n(0, 4);
                same(name, i + ", " + b + ", " + y, x.rule(i, b, y), o.rule(i, b, y)); break; }
            case "cost": same(name, m + ", " + i + ", " + u, x.cost(m, i, u), o.cost(m, i, u)); break;
            case "which": same(name, m + ", " + i + ", " + j, x.which(m, i, j), o.which(m, i, j)); break;
            case "best": if (m < 0 || m > 2 || o.ms[m].k < 6 || r.nextInt(20) == 0) { same(name, m + "", x.best(m), o.best(m)); } break;
            case "bestCost": if (m < 0 || m > 2 || o.ms[m].k < 6) { same(name, m + ", " + u, x.bestCost(m, u), o.bestCost(m, u)); } break;
            case "put": { int end = m < 0 || m > 2 ? 5 : (int) Math.pow(5, o.ms[m].k); int y = n(0, end - 1);
                same(name, m + ", " + i + ", " + y, x.put(m, i, y), o.put(m, i, y)); break; }
            case "barCost": { int b = m < 0 || m > 2 ? 1 : n(1, o.ms[m].k - 1);
                same(name, m + ", " + i + ", " + b + ", " + u, x.barCost(m, i, b, u), o.barCost(m, i, b, u)); break; }
            case "bar": same(name, m + "", x.bar(m), o.bar(m)); break;
            case "plan": same(name, m + ", " + w + ", " + d + ", " + p + ", " + f + ", " + u, x.plan(m, w, d, p, f, u), o.plan(m, w, d, p, f, u)); break;
            case "planAct": same(name, m + ", " + w + ", " + d + ", " + p + ", " + f, x.planAct(m, w, d, p, f), o.planAct(m, w, d, p, f)); break;
            case "unseen": { int y = r.nextInt(4) == 0 ? 3 : n(1, 2); same(name, m + ", " + y + ", " + u, x.unseen(m, y, u), o.unseen(m, y, u)); break; }
            case "unseenAct": { int y = r.nextInt(4) == 0 ? n(1, 3) : n(1, 2); same(name, m + ", " + y, x.unseenAct(m, y), o.unseenAct(m, y)); break; }
            case "two": { int y = n(1, 6); same(name, m + ", " + w + ", " + a + ", " + v + ", " + y + ", " + u, x.two(m, w, a, v, y, u), o.two(m, w, a, v, y, u)); break; }
            case "whom": { int y = n(1, 6); same(name, m + ", " + w + ", " + a + ", " + v + ", " + y, x.whom(m, w, a, v, y), o.whom(m, w, a, v, y)); break; }
            case "log": { int y = r.nextInt(mendRows) == 0 ? n(0, 5) : n(0, 1); same(name, y + "", x.log(y), o.log(y)); break; }
            case "unlog": if (r.nextInt(mendRows * 2) == 0) { same(name, "", x.unlog(), o.unlog()); } break;
            case "read": same(name, m + "", x.read(m), o.read(m)); break;
            case "late": { int b = n(0, 7), h = n(1, 100); same(name, m + ", " + b + ", " + h, x.late(m, b, h), o.late(m, b, h)); break; }
            case "keep": same(name, s + "", x.keep(s), o.keep(s)); break;
            case "again": same(name, s + "", x.again(s), o.again(s)); break;
            default: same(name, what + "", x.count(what), o.count(what));
        }
    }

    private void go() {
        for (int m = 0; m < 3; m++) {
            if (r.nextInt(8) != 0) {
                newMachine(m);
            }
        }
        int theme = r.nextInt(6);
        mendRows = theme >= 4 ? 40 : 4;
        while (calls < 490) {
            int c = r.nextInt(NAMES.length);
            if (NAMES[c].equals("make") && r.nextInt(3) != 0) {
                continue;
            }
            call(c);
            if (theme == 0) {
                call(8);
                call(33 + r.nextInt(2));
            } else if (theme == 1) {
                call(8 + r.nextInt(8));
            } else if (theme == 2) {
                call(17 + r.nextInt(3));
            } else if (theme == 3) {
                call(8);
                call(9);
            } else if (theme == 4) {
                call(31);
                call(33 + r.nextInt(2));
            }
        }
    }

    public static void main(String[] args) {
        int runs = args.length > 0 ? Integer.parseInt(args[0]) : 120;
        long seed = args.length > 1 ? Long.parseLong(args[1]) : 7;
        for (int i = 0; i < runs; i++) {
            new OracleTest(seed * 1000003 + i).go();
        }
        if (args.length > 2) {
            System.out.println(ANSWERS);
        }
        System.out.println(wrong == 0 ? "program and oracle agree" : wrong + " answers differ");
        if (wrong != 0) {
            System.exit(1);
        }
    }
}
