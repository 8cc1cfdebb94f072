import java.util.TreeSet;

/** Each promise by numbers worked out by hand: the ordinary, the edges and the refused. */
public final class PromiseTest {
    private static final int U = MendedOrNew.UNKNOWN, O = MendedOrNew.OUTSIDE, S = MendedOrNew.STATE,
            F = MendedOrNew.FULL, NO = MendedOrNew.NONE;
    private static final int LOW = Integer.MIN_VALUE, HIGH = Integer.MAX_VALUE;
    /** 0 to 1 by 5 tenths, 1 to 2 by 2; days cost 0, 3, 30; MENDING 0 to WEAR 0 for 5, 1 to WEAR 1 for 20. */
    private static final String PUMP = "N3S015S122C103C230K16K29M0005M1120L4";
    private static final String LEAK = "N2S013";
    private static final String FORK = "N3S014S024";

    private static final TreeSet<Integer> TOUCHED = new TreeSet<>();
    private static int promise;
    private static int asked;
    private static int wrong;

    private static void promise(int number) {
        promise = number;
        asked = 0;
        TOUCHED.add(number);
    }

    private static void due(long got, long want) {
        asked++;
        if (got != want) {
            wrong++;
            System.out.println("promise " + promise + ", row " + asked + ": answered " + got + ", due is " + want);
        }
    }

    private static void type(MendedOrNew x, String text) {
        x.wipe();
        for (int i = 0; i < text.length(); i++) {
            x.write(1, text.charAt(i));
        }
    }

    private static MendedOrNew with(String... texts) {
        MendedOrNew x = new MendedOrNew();
        for (int i = 0; i < texts.length; i++) {
            type(x, texts[i]);
            due(x.make(i), texts[i].charAt(1) - '0');
        }
        return x;
    }

    private static void faultOf(String text, int want) {
        MendedOrNew x = new MendedOrNew();
        type(x, text);
        due(x.fault(), want);
        due(x.make(0), want == NO ? text.charAt(1) - '0' : S);
    }

    private static void days(MendedOrNew x, int machine, int n) {
        for (int i = 0; i < n; i++) {
            due(x.day(machine), 1);
        }
    }

    private static void rows(MendedOrNew x, int... rows) {
        x.unlog();
        for (int i = 0; i < rows.length; i++) {
            due(x.log(rows[i]), i + 1);
        }
    }

    // ---- texts

    private static void texts() {
        promise(1);
        MendedOrNew x = new MendedOrNew();
        for (int m = 0; m < 3; m++) {
            due(x.about(m, 0), 2);
            due(x.about(m, 1), NO);
            due(x.about(m, 2), 0);
            due(x.weight(m, 0), 1);
            due(x.weight(m, 1), 0);
            due(x.goes(m, 0, 0), 10);
        }
        due(x.count(0), 0);
        due(x.count(1), 0);
        due(x.again(0), S);
        due(x.again(1), S);
        due(x.rule(3, 7, 0), 0);

        promise(2);
        due(x.write(1, 0xFF4EL), 1);
        due(x.write(2, ('2' << 8 | 'L') | 0x7700000000000000L), 3);
        due(x.fault(), 3);
        due(x.write(1, '7'), 4);
        due(x.make(0), 2);
        due(x.about(0, 1), 7);
        due(x.write(0, 1), O);
        due(x.write(9, 1), O);
        due(x.write(LOW, 1), O);
        due(x.write(HIGH, 1), O);
        for (int i = 1; i <= 7; i++) {
            due(x.write(8, -1), 4 + 8 * i);
        }
        due(x.write(5, 0), F);
        due(x.count(0), 60);
        due(x.write(4, 0), 64);
        due(x.write(1, 0), F);
        due(x.write(9, 0), O);

        promise(3);
        due(x.wipe(), 64);
        due(x.wipe(), 0);
        due(x.count(0), 0);
        due(x.about(0, 1), 7);
    }

    private static void faults() {
        promise(4);
        faultOf("", 0);
        faultOf("N", 1);
        faultOf("M", 0);
        faultOf("n2", 0);
        faultOf("N1", 1);
        faultOf("N9", 1);
        faultOf("N2", NO);
        faultOf("N8", NO);
        faultOf("N2N3", 2);
        faultOf("N2 ", 2);
        faultOf("N2\u00ff", 2);
        faultOf("N3S", 3);
        faultOf("N3S0", 4);
        faultOf("N3S01", 5);
        faultOf("N3S019", NO);
        faultOf("N3S010", 5);
        faultOf("N3S00", 4);
        faultOf("N3S11", 4);
        faultOf("N3S2", 3);
        faultOf("N3S03", 4);
        faultOf("N3S015S01", 8);
        faultOf("N3S015S025", NO);
        faultOf("N3S015S026", 9);
        faultOf("N3S015S025S0", 11);
        faultOf("N3S014S024S0", 11);
        faultOf("N2S015S", 6);
        faultOf("N3S015S025S122S", 14);
        faultOf("N4S015S025S122S134S235S", 22);
        faultOf("N4S015S025S122S134S", 19);
        faultOf("N2C0", 4);
        faultOf("N2C099C100", NO);
        faultOf("N2C2", 3);
        faultOf("N2C000C0", 7);
        faultOf("N2C0x0", 4);
        faultOf("N2C00x", 5);
        faultOf("N2C000C100C", 10);
        faultOf("N2K00", 4);
        faultOf("N2K09", NO);
        faultOf("N2K01K12", NO);
        faultOf("N2K01K12K", 8);
        faultOf("N2K01K0", 6);
        faultOf("N2M4", 3);
        faultOf("N2M01", 4);
        faultOf("N3M0199", NO);
        faultOf("N3M0200", 4);
        faultOf("N2M0000M1000M2000M3000", NO);
        faultOf("N2M0000M1000M2000M3000M", 22);
        faultOf("N2M0000M0", 8);
        faultOf("N2M000", 6);
        faultOf("N2L", 3);
        faultOf("N2L0", NO);
        faultOf("N2L0L", 4);
        faultOf("N2Lx", 3);
        faultOf(PUMP, NO);
        StringBuilder full = new StringBuilder("N8M0000M1000L9");
        for (int i = 0; i < 8; i++) {
            full.append('C').append(i).append("99");
        }
        for (int i = 0; i < 6; i++) {
            full.append('K').append(i).append('1');
        }
        faultOf(full.toString(), NO);
        faultOf(full.substring(0, 63) + "S", 63);
        faultOf(full.substring(0, 61) + "S01", 64);

        promise(5);
        MendedOrNew x = with(PUMP);
        due(x.make(-1), U);
        due(x.make(3), U);
        due(x.count(0), PUMP.length());
        days(x, 0, 2);
        due(x.make(0), 3);
        due(x.weight(0, 0), 1);
        due(x.weight(0, 1), 0);
        x.wipe();
        due(x.make(0), S);
        due(x.make(3), U);
        due(x.about(0, 0), 3);
        type(x, "N2L");
        due(x.make(0), S);
        due(x.about(0, 1), 4);
        due(x.goes(0, 0, 1), 5);
    }

    private static void asking() {
        MendedOrNew x = with(PUMP, LEAK);
        promise(6);
        due(x.about(0, 0), 3);
        due(x.about(0, 1), 4);
        due(x.about(0, 2), 3);
        due(x.about(1, 1), NO);
        due(x.about(1, 2), 0);
        due(x.about(0, -1), O);
        due(x.about(0, 3), O);
        due(x.about(3, 3), U);
        due(x.about(-1, 0), U);

        promise(7);
        due(x.worn(0, 0, 0), 0);
        due(x.worn(0, 1, 0), 3);
        due(x.worn(0, 2, 0), 30);
        due(x.worn(0, 0, 1), 0);
        due(x.worn(0, 1, 1), 6);
        due(x.worn(0, 2, 1), 9);
        due(x.worn(0, 0, 2), 5);
        due(x.worn(0, 1, 2), 2);
        due(x.worn(0, 2, 2), 0);
        due(x.worn(0, 3, 0), U);
        due(x.worn(0, 3, 9), U);
        due(x.worn(0, -1, 0), U);
        due(x.worn(5, 0, 0), U);
        due(x.worn(0, 0, 3), O);
        due(x.worn(0, 0, -1), O);

        promise(8);
        due(x.goes(0, 0, 0), 5);
        due(x.goes(0, 0, 1), 5);
        due(x.goes(0, 0, 2), 0);
        due(x.goes(0, 1, 0), 0);
        due(x.goes(0, 1, 1), 8);
        due(x.goes(0, 1, 2), 2);
        due(x.goes(0, 2, 2), 10);
        due(x.goes(0, 0, 3), U);
        due(x.goes(0, 3, 0), U);
        due(x.goes(1, 0, 2), U);
        due(x.goes(-1, 0, 0), U);

        promise(9);
        due(x.mending(0, 0, 0), 5);
        due(x.mending(0, 0, 1), 0);
        due(x.mending(0, 1, 0), 20);
        due(x.mending(0, 1, 1), 1);
        due(x.mending(0, 2, 0), U);
        due(x.mending(0, 2, 7), U);
        due(x.mending(0, -1, 0), U);
        due(x.mending(0, 4, 0), U);
        due(x.mending(1, 0, 0), U);
        due(x.mending(3, 0, 0), U);
        due(x.mending(0, 0, 2), O);
        due(x.mending(0, 0, -1), O);
    }

    // ---- thoughts

    private static void thinking() {
        MendedOrNew x = with(PUMP, LEAK, "N2S015K19");
        promise(10);
        due(x.day(3), U);
        due(x.day(-1), U);
        days(x, 0, 2);
        due(x.weight(0, 0), 5);
        due(x.weight(0, 1), 13);
        due(x.weight(0, 2), 2);
        days(x, 1, 15);
        due(x.weight(1, 0), 4747561509943L);
        due(x.weight(1, 1), 995252438490057L);
        due(x.day(1), F);
        due(x.weight(1, 0), 4747561509943L);
        due(x.weight(1, 1), 995252438490057L);

        promise(11);
        due(x.hear(0, true), 1);
        due(x.weight(0, 0), 0);
        due(x.weight(0, 1), 13);
        due(x.weight(0, 2), 3);
        due(x.hear(0, false), 1);
        due(x.weight(0, 1), 52);
        due(x.weight(0, 2), 3);
        due(x.hear(1, true), S);
        due(x.hear(1, false), 1);
        due(x.weight(1, 0), 4747561509943L);
        due(x.hear(3, true), U);
        due(x.hear(2, true), S);
        days(x, 2, 1);
        for (int i = 0; i < 15; i++) {
            due(x.hear(2, false), 1);
        }
        due(x.weight(2, 0), 1000000000000000L);
        due(x.weight(2, 1), 1);
        due(x.hear(2, false), F);
        due(x.weight(2, 0), 1000000000000000L);
        due(x.hear(2, true), 1);
        due(x.weight(2, 0), 0);
        due(x.weight(2, 1), 1);

        promise(12);
        due(x.mend(0, 1), 1);
        due(x.weight(0, 1), 1);
        due(x.weight(0, 2), 0);
        due(x.mend(0, 0), 0);
        due(x.weight(0, 0), 1);
        due(x.mend(0, 2), U);
        due(x.mend(0, 4), U);
        due(x.mend(0, -1), U);
        due(x.mend(1, 0), U);
        due(x.mend(3, 0), U);
        due(x.weight(0, 0), 1);

        promise(13);
        due(x.look(0, 1), S);
        days(x, 0, 2);
        due(x.look(0, 3), U);
        due(x.look(3, 0), U);
        due(x.look(1, 0), S);
        due(x.look(1, 2), U);
        due(x.weight(0, 1), 13);
        due(x.look(0, 2), 1);
        due(x.weight(0, 1), 0);
        due(x.weight(0, 2), 1);
        due(x.look(0, 0), S);
    }

    private static void thoughtsTold() {
        MendedOrNew x = with(PUMP, LEAK, "N3S015");
        promise(14);
        due(x.weight(0, 0), 1);
        days(x, 0, 1);
        due(x.weight(0, 0), 1);
        due(x.weight(0, 1), 1);
        due(x.weight(0, 2), 0);
        due(x.weight(0, 3), U);
        due(x.weight(0, -1), U);
        due(x.weight(3, 0), U);

        promise(15);
        days(x, 0, 1);
        due(x.chance(0, 0, true), 1);
        due(x.chance(0, 0, false), 4);
        due(x.chance(0, 1, true), 13);
        due(x.chance(0, 1, false), 20);
        due(x.chance(0, 2, true), 1);
        due(x.chance(0, 2, false), 10);
        due(x.chance(1, 0, true), 1);
        due(x.chance(1, 0, false), 1);
        due(x.chance(1, 1, true), 0);
        due(x.chance(1, 1, false), 1);
        due(x.chance(1, 2, true), U);
        due(x.chance(1, 2, false), U);
        due(x.chance(-1, 0, false), U);

        promise(16);
        due(x.knock(0, true), 12);
        due(x.knock(0, false), 25);
        due(x.knock(1, true), 0);
        due(x.knock(1, false), 1);
        due(x.knock(3, true), U);
        due(x.knock(3, false), U);

        promise(17);
        due(x.likely(0), 1);
        due(x.likely(1), 0);
        days(x, 2, 1);
        due(x.likely(2), 0);
        days(x, 2, 1);
        due(x.likely(2), 1);
        due(x.likely(-1), U);
        due(x.likely(3), U);
    }

    // ---- rules

    private static void rules() {
        MendedOrNew x = with(PUMP, FORK, "N4S013S027S121S233");
        promise(18);
        due(x.life(0, 0, true), 7);
        due(x.life(0, 0, false), 1);
        due(x.life(0, 1, true), 5);
        due(x.life(0, 2, true), 0);
        due(x.life(0, 2, false), 1);
        due(x.life(1, 0, true), NO);
        due(x.life(1, 0, false), NO);
        due(x.life(1, 1, true), NO);
        due(x.life(1, 2, true), 0);
        due(x.life(2, 0, true), 22);
        due(x.life(2, 0, false), 3);
        due(x.life(2, 1, true), 40);
        due(x.life(2, 1, false), 3);
        due(x.life(2, 4, true), U);
        due(x.life(3, 0, false), U);
        due(x.life(0, -1, false), U);

        promise(19);
        due(x.rule(0, 2, 1), 0);
        due(x.rule(0, 2, 4), 1);
        due(x.rule(0, 2, 5), O);
        due(x.rule(0, 2, -1), O);
        due(x.rule(0, 2, 1), 4);
        due(x.rule(0, 8, 0), U);
        due(x.rule(0, -1, 9), U);
        due(x.rule(4, 0, 9), U);
        due(x.rule(-1, 0, 0), U);
        due(x.rule(3, 7, 2), 0);
        due(x.rule(3, 7, 0), 2);

        promise(20);
        due(x.cost(0, 0, true), 20);
        due(x.cost(0, 0, false), 7);
        due(x.cost(0, 1, true), 30);
        due(x.cost(0, 1, false), 1);
        due(x.cost(1, 1, true), S);
        due(x.cost(1, 1, false), S);
        due(x.cost(1, 0, true), S);
        due(x.rule(2, 1, 3), 0);
        due(x.cost(0, 2, true), S);
        due(x.rule(2, 1, 0), 3);
        due(x.rule(2, 7, 3), 0);
        due(x.cost(0, 2, true), 30);
        due(x.rule(2, 7, 0), 3);
        due(x.cost(0, 4, true), U);
        due(x.cost(0, -1, true), U);
        due(x.cost(3, 0, false), U);

        promise(21);
        due(x.which(0, 0, 1), 1);
        due(x.which(0, 1, 0), 2);
        due(x.which(0, 1, 2), 3);
        due(x.which(0, 1, 1), 3);
        due(x.rule(3, 0, 4), 0);
        due(x.which(0, 1, 3), S);
        due(x.which(0, 3, 1), S);
        due(x.which(0, 3, 4), U);
        due(x.which(0, 4, 3), U);
        due(x.which(3, 0, 0), U);
        due(x.which(1, 1, 2), S);
    }

    private static void bestRules() {
        MendedOrNew x = with(PUMP, FORK, "N6M0000M1000M2000");
        promise(22);
        due(x.best(0), 5);
        due(x.best(1), NO);
        due(x.best(2), S);
        due(x.best(3), U);
        due(x.best(-1), U);

        promise(23);
        due(x.bestCost(0, true), 5);
        due(x.bestCost(0, false), 2);
        due(x.bestCost(1, true), NO);
        due(x.bestCost(1, false), NO);
        due(x.bestCost(2, true), S);
        due(x.bestCost(2, false), S);
        due(x.bestCost(3, true), U);
        type(x, "N5S015C405C009M0007M1005M3001");
        due(x.make(2), 5);
        due(x.bestCost(2, true), 0);
        due(x.bestCost(2, false), 1);
        promise(22);
        due(x.best(2), 0);
        type(x, "N4S019S129S239C399M0050M1070M2060M3020");
        due(x.make(2), 4);
        due(x.best(2), 4);
        due(x.bestCost(2, true), 6);
        type(x, "N2M1000");
        due(x.make(2), 2);
        due(x.best(2), 0);
        type(x, "N3C050M0100");
        due(x.make(2), 3);
        due(x.best(2), 25);
        due(x.bestCost(2, true), 0);
        type(x, "N3C050C101M0208");
        due(x.make(2), S);

        promise(24);
        due(x.put(0, 1, 5), 1);
        due(x.cost(0, 1, true), 5);
        due(x.cost(0, 1, false), 2);
        due(x.rule(1, 7, 4), 0);
        due(x.put(0, 1, 124), 3);
        due(x.rule(1, 7, 0), 0);
        due(x.put(0, 1, 27), 2);
        due(x.rule(1, 0, 0), 1);
        due(x.rule(1, 1, 0), 0);
        due(x.rule(1, 2, 0), 2);
        due(x.put(0, 1, 0), 0);
        due(x.put(0, 1, 125), O);
        due(x.put(0, 1, -1), O);
        due(x.put(0, 1, HIGH), O);
        due(x.put(0, 4, -1), U);
        due(x.put(3, 1, 0), U);
        type(x, "N8");
        due(x.make(2), 8);
        due(x.put(2, 1, 390624), 8);
        due(x.put(2, 1, 390625), O);
        due(x.rule(1, 7, 0), 4);

        promise(25);
        due(x.barCost(0, 0, 1, true), 5);
        due(x.barCost(0, 0, 1, false), 2);
        due(x.barCost(0, 0, 2, true), 20);
        due(x.barCost(0, 0, 2, false), 7);
        due(x.barCost(0, 1, 1, true), 23);
        due(x.barCost(0, 1, 2, true), 7);
        due(x.barCost(0, 1, 2, false), 1);
        due(x.barCost(0, 0, 0, true), O);
        due(x.barCost(0, 0, 3, true), O);
        due(x.barCost(0, 2, 0, true), U);
        due(x.barCost(0, 4, 1, true), U);
        due(x.barCost(3, 0, 1, true), U);
        due(x.barCost(2, 0, 1, true), U);
        type(x, "N4S013S023M0200");
        due(x.make(2), 4);
        due(x.barCost(2, 0, 3, true), S);
        due(x.barCost(2, 0, 3, false), S);
        due(x.barCost(2, 0, 1, true), 0);

        promise(26);
        due(x.bar(0), 1);
        due(x.bar(1), NO);
        due(x.bar(2), 1);
        due(x.bar(3), U);
        type(x, "N3S015S122C103C230M3005");
        due(x.make(2), 3);
        due(x.bar(2), 31);
        type(x, "N3S015S122C103C230M0060M2060");
        due(x.make(2), 3);
        due(x.bar(2), 2);
    }

    // ---- some days ahead

    private static void plans() {
        MendedOrNew x = with(PUMP, "N2C105M0005");
        promise(27);
        due(x.plan(0, 2, 1, 1, 0, true), 5);
        due(x.plan(0, 1, 1, 1, 0, true), 3);
        due(x.plan(0, 2, 2, 1, 0, true), 13);
        due(x.plan(0, 2, 2, 1, 0, false), 2);
        due(x.plan(0, 1, 2, 1, 0, true), 32);
        due(x.plan(0, 1, 2, 1, 0, false), 5);
        due(x.plan(0, 1, 2, 2, 0, true), 13);
        due(x.plan(0, 1, 2, 1, 9, true), 3);
        due(x.plan(0, 1, 2, 1, 9, false), 1);
        due(x.plan(0, 1, 2, 1, 1, true), 31);
        due(x.plan(0, 1, 2, 1, 1, false), 5);
        due(x.plan(1, 0, 8, 8, 9, true), 0);
        due(x.plan(0, 3, 0, 1, 0, true), U);
        due(x.plan(3, 0, 1, 1, 0, true), U);
        due(x.plan(0, -1, 1, 1, 0, false), U);
        due(x.plan(0, 0, 0, 1, 0, true), O);
        due(x.plan(0, 0, 9, 1, 0, false), O);
        due(x.plan(0, 0, 1, 0, 0, true), O);
        due(x.plan(0, 0, 1, 9, 0, true), O);
        due(x.plan(0, 0, 1, 1, -1, true), O);
        due(x.plan(0, 0, 1, 1, 10, false), O);

        promise(28);
        due(x.planAct(0, 2, 1, 1, 0), 1);
        due(x.planAct(0, 1, 1, 1, 0), 0);
        due(x.planAct(0, 1, 2, 1, 0), 0);
        due(x.planAct(0, 1, 2, 2, 0), 1);
        due(x.planAct(0, 1, 2, 1, 9), 0);
        due(x.planAct(1, 1, 1, 1, 0), 0);
        due(x.planAct(1, 1, 2, 1, 0), 1);
        due(x.planAct(0, 3, 0, 1, 0), U);
        due(x.planAct(3, 0, 1, 1, 0), U);
        due(x.planAct(0, 0, 9, 1, 0), O);
        due(x.planAct(0, 0, 1, 0, 0), O);
        due(x.planAct(0, 0, 1, 1, 10), O);
    }

    private static void unseens() {
        MendedOrNew x = with(PUMP, PUMP.replace("L4", "L0"), LEAK);
        days(x, 0, 2);
        days(x, 1, 2);
        promise(29);
        due(x.unseen(0, 1, true), 99);
        due(x.unseen(0, 1, false), 20);
        due(x.hear(0, true), 1);
        due(x.unseen(0, 1, true), 5);
        due(x.unseen(0, 1, false), 1);
        due(x.hear(1, true), 1);
        due(x.unseen(1, 1, true), 27);
        due(x.unseen(1, 1, false), 8);
        // mended, a day, then by no knock (half and 4 tenths of it at 1: 10 to 4) or a knock (at 1 surely)
        due(x.unseen(0, 2, true), 13);
        due(x.unseen(0, 2, false), 2);
        days(x, 2, 9);
        due(x.unseen(2, 3, true), 0);
        days(x, 2, 1);
        due(x.unseen(2, 1, true), S);
        due(x.unseen(2, 1, false), S);
        due(x.unseen(2, 4, false), O);
        due(x.unseen(0, 0, true), O);
        due(x.unseen(0, 4, true), O);
        due(x.unseen(3, 0, true), U);
        due(x.unseen(-1, 1, true), U);

        promise(30);
        due(x.unseenAct(0, 1), 1);
        due(x.unseenAct(1, 1), 5);
        due(x.unseenAct(0, 2), 1);
        due(x.unseenAct(2, 1), S);
        due(x.unseenAct(2, 0), O);
        due(x.unseenAct(0, 4), O);
        due(x.unseenAct(3, 4), U);
        due(x.mend(0, 0), 0);
        due(x.unseenAct(0, 1), 0);
        due(x.mend(1, 1), 1);
        due(x.unseenAct(1, 1), 0);
        MendedOrNew y = with("N3S019C140C240M1005M0005L0");
        days(y, 0, 1);
        due(y.unseenAct(0, 1), 5);
        due(y.unseen(0, 1, true), 9);
        due(y.unseen(0, 1, false), 2);
        MendedOrNew z = with("N3S019C140C240M1005M0005L1");
        days(z, 0, 1);
        due(z.unseenAct(0, 1), 1);
    }

    private static void twos() {
        MendedOrNew x = with(PUMP, "N4C304");
        promise(31);
        due(x.two(0, 1, 0, 2, 1, true), 3);
        due(x.two(0, 1, 0, 1, 2, true), 6);
        due(x.two(0, 0, 0, 0, 2, true), 0);
        due(x.two(0, 0, 0, 0, 2, false), 1);
        due(x.two(0, 0, 0, 2, 3, true), 129);
        due(x.two(0, 0, 0, 2, 3, false), 20);
        due(x.two(0, 0, 0, 2, 4, true), 3057);
        due(x.two(0, 0, 0, 2, 4, false), 200);
        due(x.two(0, 2, 1, 3, 6, true), 24);
        due(x.two(1, 3, 0, 2, 6, true), 24);
        due(x.two(0, 3, 0, 0, 7, true), U);
        due(x.two(1, 3, 0, 3, 1, true), U);
        due(x.two(3, 0, 0, 0, 1, true), U);
        due(x.two(0, 0, 3, 0, 1, false), U);
        due(x.two(0, 0, 0, -1, 1, false), U);
        due(x.two(0, 0, 0, 0, 0, true), O);
        due(x.two(0, 0, 0, 0, 7, false), O);

        promise(32);
        due(x.whom(0, 1, 0, 2, 1), 0);
        due(x.whom(0, 2, 0, 1, 1), 1);
        due(x.whom(0, 1, 0, 1, 2), 0);
        due(x.whom(0, 1, 1, 3, 1), 0);
        due(x.whom(1, 3, 0, 1, 1), 1);
        due(x.whom(0, 3, 0, 0, 7), U);
        due(x.whom(0, 0, 0, 0, 7), O);
        due(x.whom(0, 0, 0, 0, 0), O);
        due(x.whom(0, 0, 3, 0, 1), U);
    }

    // ---- the log

    private static void logs() {
        MendedOrNew x = with(PUMP, LEAK);
        promise(33);
        due(x.log(-1), O);
        due(x.log(6), O);
        for (int i = 1; i <= 16; i++) {
            due(x.log(0), i);
        }
        due(x.log(0), F);
        due(x.log(6), O);
        due(x.count(1), 16);

        promise(34);
        due(x.unlog(), 16);
        due(x.unlog(), 0);
        due(x.count(1), 0);

        promise(35);
        days(x, 0, 1);
        due(x.read(0), 0);
        due(x.weight(0, 0), 1);
        due(x.weight(0, 1), 0);
        rows(x, 0, 1);
        due(x.read(0), 2);
        // (5, 2, 0), then (25, 41, 4), by the knock (0, 246, 36), in least terms
        due(x.weight(0, 0), 0);
        due(x.weight(0, 1), 41);
        due(x.weight(0, 2), 6);
        due(x.read(1), S);
        due(x.weight(1, 0), 1);
        due(x.read(3), U);
        due(x.read(-1), U);
        rows(x, 0, 3);
        due(x.read(0), 2);
        due(x.weight(0, 1), 1);
        rows(x, 0, 4, 1);
        due(x.read(0), U);
        due(x.weight(0, 1), 1);
        rows(x, 1, 2);
        due(x.read(1), S);
        rows(x, 0, 0, 0, 0, 0, 0, 0, 0, 0, 0, 0, 0, 0, 0, 0, 2);
        due(x.read(1), U);
        rows(x, 0, 0, 0, 0, 0, 0, 0, 0, 0, 0, 0, 0, 0, 0, 0, 0);
        due(x.read(1), F);
        due(x.weight(1, 0), 1);

        promise(36);
        due(x.late(1, 1, 50), 1);
        due(x.late(1, 1, 51), 1);
        due(x.late(1, 1, 52), 2);
        due(x.late(1, 1, 100), F);
        due(x.late(1, 0, 100), 0);
        due(x.late(1, 2, 1), F);
        rows(x, 0, 0);
        due(x.late(1, 7, 1), NO);
        due(x.late(1, 1, 100), NO);
        due(x.late(1, -1, 50), O);
        due(x.late(1, 8, 50), O);
        due(x.late(1, 1, 0), O);
        due(x.late(1, 1, 101), O);
        due(x.late(3, 8, 0), U);
        rows(x, 0, 0, 1);
        due(x.late(1, 1, 52), S);
        due(x.late(1, 1, 51), 1);
        rows(x, 0, 4);
        due(x.late(0, 2, 50), U);
        rows(x);
        due(x.late(0, 0, 1), NO);
        due(x.weight(1, 0), 1);
    }

    private static void slots() {
        MendedOrNew x = with(PUMP, LEAK);
        promise(37);
        due(x.keep(2), U);
        due(x.keep(-1), U);
        days(x, 0, 1);
        rows(x, 0, 1);
        due(x.keep(1), 1);
        due(x.keep(1), 0);
        due(x.again(0), S);

        promise(38);
        days(x, 0, 1);
        days(x, 1, 1);
        due(x.unlog(), 2);
        due(x.log(5), 1);
        due(x.again(2), U);
        due(x.again(-1), U);
        due(x.again(0), S);
        due(x.weight(0, 1), 13);
        due(x.keep(0), 1);
        due(x.again(1), 3);
        due(x.weight(0, 1), 1);
        due(x.weight(1, 1), 0);
        due(x.count(1), 2);
        due(x.read(0), 2);
        due(x.again(0), 3);
        due(x.weight(0, 1), 13);
        due(x.weight(1, 1), 3);
        due(x.count(1), 1);
        due(x.make(0), 2);
        due(x.again(0), 2);
        due(x.about(0, 0), 2);
        due(x.weight(0, 0), 1);
        days(x, 0, 1);
        due(x.weight(0, 0), 7);
        due(x.again(1), 2);
        due(x.weight(0, 0), 7);
        due(x.keep(1), 0);
        days(x, 0, 1);
        due(x.again(1), 3);
        due(x.weight(0, 0), 7);
        due(x.make(0), 2);
        due(x.make(1), 2);
        due(x.make(2), 2);
        due(x.again(1), 0);
        due(x.count(1), 2);

        promise(39);
        due(x.count(0), LEAK.length());
        due(x.count(2), 0);
        type(x, PUMP);
        due(x.make(0), 3);
        due(x.make(2), 3);
        due(x.count(2), 4);
        due(x.count(-1), O);
        due(x.count(3), O);
        due(x.count(1), 2);
    }

    public static void main(String[] args) {
        texts();
        faults();
        asking();
        thinking();
        thoughtsTold();
        rules();
        bestRules();
        plans();
        unseens();
        twos();
        logs();
        slots();
        if (TOUCHED.size() != 39 || TOUCHED.first() != 1 || TOUCHED.last() != 39) {
            wrong++;
            System.out.println("not every promise has its test: " + TOUCHED);
        }
        System.out.println(wrong == 0 ? "all promises are kept" : wrong + " answers are not as due");
        if (wrong != 0) {
            System.exit(1);
        }
    }
}
