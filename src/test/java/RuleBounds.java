/** Promises 18 to 26 at their edges: LIFE, RULES and what they cost, THE BEST RULE, BARS. */
final class RuleBounds {
    private static final int U = Bounds.U, O = Bounds.O, S = Bounds.S, NO = Bounds.NO, HIGH = Bounds.HIGH;
    private static final Bounds.Setup SHOP = Bounds::workshop;
    private static final String FORK = "N3S014S024";
    /** It leaves each WEAR by one way alone, and a MENDING is dear: the later, the better. */
    private static final String SLOW = "N8S019S129S239S349S459S569S679C799M3099";

    private RuleBounds() {
    }

    static void all() {
        life();
        rule();
        costRefused();
        costTold();
        which();
        best();
        bestCost();
        put();
        barCost();
        bar();
    }

    private static void life() {
        Bounds.promise(18, "UNKNOWN: there is no such MACHINE, WEAR");
        Bounds.rangeFraction(SHOP, 0, 2, U, (x, v) -> x.life(v, 0, true), (x, v) -> x.life(v, 0, false));
        Bounds.rangeFraction(SHOP, 0, 2, U, (x, v) -> x.life(0, v, true), (x, v) -> x.life(0, v, false));
        Bounds.rangeFraction(SHOP, 0, 1, U, (x, v) -> x.life(1, v, true), (x, v) -> x.life(1, v, false));
        Bounds.promise(18, "how many DAYS there are till it is BROKEN: none, if it is");
        for (int k = 2; k <= 8; k++) {
            int broken = k - 1;
            Bounds.fraction(Bounds.with("N" + k), (x, upper) -> x.life(0, broken, upper), 0, 1);
        }
        Bounds.promise(18, "NONE: it may never be; NONE (above and below)");
        Bounds.fraction(new MendedOrNew(), (x, upper) -> x.life(2, 0, upper), NO, NO);
        Bounds.fraction(Bounds.with(FORK), (x, upper) -> x.life(0, 0, upper), NO, NO);
        Bounds.fraction(Bounds.with(FORK), (x, upper) -> x.life(0, 1, upper), NO, NO);
        Bounds.fraction(Bounds.with("N4S011S021S121S231"), (x, upper) -> x.life(0, 0, upper), 20, 1);
        Bounds.fraction(Bounds.with("N4S019S021S139"), (x, upper) -> x.life(0, 0, upper), NO, NO);
        Bounds.fraction(Bounds.with("N4S019S021S139"), (x, upper) -> x.life(0, 1, upper), 10, 9);
        Bounds.promise(18, "NONE: it may never be; a WEAR that it does not come to does not matter");
        Bounds.fraction(Bounds.with("N3S024"), (x, upper) -> x.life(0, 0, upper), 5, 2);
        Bounds.fraction(Bounds.with("N3S024"), (x, upper) -> x.life(0, 1, upper), NO, NO);
        Bounds.promise(18, "LIFE in the mean: the longest, one by nine tenths, one by all ten, in least terms");
        Bounds.fraction(Bounds.with("N8S011S121S231S341S451S561S671"), (x, upper) -> x.life(0, 0, upper), 70, 1);
        Bounds.fraction(Bounds.with("N2S019"), (x, upper) -> x.life(0, 0, upper), 10, 9);
        Bounds.fraction(Bounds.with("N3S015S025S129"), (x, upper) -> x.life(0, 0, upper), 14, 9);
        Bounds.fraction(Bounds.with("N8S017S127S237S347S457S567S679"), (x, upper) -> x.life(0, 0, upper), 610, 63);
        Bounds.promise(18, "LIFE (MENDINGS and THE THOUGHT do not matter)");
        MendedOrNew x = Bounds.workshop();
        Bounds.fraction(x, (y, upper) -> y.life(0, 0, upper), 7, 1);
        Bounds.fraction(x, (y, upper) -> y.life(0, 1, upper), 5, 1);
    }

    private static void rule() {
        Bounds.promise(19, "UNKNOWN: there is no such RULE (0 to 3)");
        Bounds.range(SHOP, 0, 3, U, (x, v) -> x.rule(v, 0, 1));
        Bounds.promise(19, "UNKNOWN: there is no such WEAR (0 to 7)");
        Bounds.range(SHOP, 0, 7, U, (x, v) -> x.rule(0, v, 1));
        Bounds.range(MendedOrNew::new, 0, 7, U, (x, v) -> x.rule(3, v, 4));
        Bounds.promise(19, "OUTSIDE: act (0 nothing, 1 to 4 MENDING 0 to 3)");
        Bounds.range(SHOP, 0, 4, O, (x, v) -> x.rule(1, 7, v));
        Bounds.range(SHOP, 0, 4, O, (x, v) -> x.rule(0, 0, v));
        Bounds.promise(19, "UNKNOWN ahead of OUTSIDE");
        Bounds.refused(SHOP, x -> x.rule(4, 0, 5), U);
        Bounds.refused(SHOP, x -> x.rule(0, 8, 5), U);
        Bounds.refused(SHOP, x -> x.rule(0, -1, -1), U);
        Bounds.promise(19, "The ACT of a RULE at a WEAR: what it was");
        MendedOrNew x = new MendedOrNew();
        for (int rule = 0; rule < 4; rule++) {
            for (int wear = 0; wear < 8; wear++) {
                Bounds.due(x.rule(rule, wear, (rule + wear) % 5), 0);
            }
        }
        for (int rule = 0; rule < 4; rule++) {
            for (int wear = 0; wear < 8; wear++) {
                Bounds.due(x.rule(rule, wear, 4), (rule + wear) % 5);
                Bounds.due(x.rule(rule, wear, 0), 4);
            }
        }
    }

    private static void costRefused() {
        Bounds.promise(20, "UNKNOWN: there is no such MACHINE, RULE");
        Bounds.rangeFraction(SHOP, 0, 2, U, (x, v) -> x.cost(v, 0, true), (x, v) -> x.cost(v, 0, false));
        Bounds.rangeFraction(SHOP, 0, 3, U, (x, v) -> x.cost(1, v, true), (x, v) -> x.cost(1, v, false));
        Bounds.promise(20, "It is told only if all its MENDINGS are there; else STATE");
        for (int act = 1; act <= 4; act++) {
            for (int wear = 0; wear < 3; wear++) {
                MendedOrNew x = Bounds.with("N3S015S125M1000");
                x.rule(2, wear, act);
                // from WEAR 0 it comes to all WEARS, and a MENDING to 0 makes one set of them
                Bounds.due(x.cost(0, 2, true), act == 2 ? 0 : S);
                Bounds.due(x.cost(0, 2, false), act == 2 ? 1 : S);
            }
        }
        Bounds.refusedFraction(() -> shopWithAct(1, 0, 1), (x, upper) -> x.cost(1, 0, upper), S);
        Bounds.refusedFraction(() -> shopWithAct(0, 2, 3), (x, upper) -> x.cost(0, 0, upper), S);
        Bounds.promise(20, "all its MENDINGS are there: at WEARS that it never comes to, too");
        MendedOrNew x = Bounds.with("N3M0000");
        x.rule(1, 2, 2);
        Bounds.fraction(x, (y, upper) -> y.cost(0, 1, upper), S, S);
        x.rule(1, 2, 1);
        Bounds.fraction(x, (y, upper) -> y.cost(0, 1, upper), 0, 1);
        Bounds.promise(20, "the WEARS of mornings that it will always come to again are all one set; else STATE");
        Bounds.fraction(Bounds.with(FORK), (y, upper) -> y.cost(0, 0, upper), S, S);
        Bounds.fraction(Bounds.with("N4S019S021C205C305"), (y, upper) -> y.cost(0, 0, upper), S, S);
        x = Bounds.with("N4S013S023M0200");
        x.rule(0, 3, 1);
        Bounds.fraction(x, (y, upper) -> y.cost(0, 0, upper), S, S);
        Bounds.promise(20, "UNKNOWN ahead of STATE");
        Bounds.refusedFraction(() -> Bounds.with(FORK), (y, upper) -> y.cost(0, 4, upper), U);
        Bounds.refusedFraction(() -> shopWithAct(1, 0, 1), (y, upper) -> y.cost(3, 0, upper), U);
    }

    private static MendedOrNew shopWithAct(int machine, int wear, int act) {
        MendedOrNew x = Bounds.workshop();
        x.put(machine, 0, 0);
        x.rule(0, wear, act);
        return x;
    }

    private static void costTold() {
        Bounds.promise(20, "THE COST of one that begins at WEAR 0: where it does not come to does not matter");
        Bounds.fraction(Bounds.with("N3S015C101C202"), (x, upper) -> x.cost(0, 0, upper), 1, 1);
        Bounds.fraction(Bounds.with("N8C009C199"), (x, upper) -> x.cost(0, 0, upper), 9, 1);
        Bounds.promise(20, "THE COST for ever: of WEARS that it does not come to again nothing is left");
        Bounds.fraction(Bounds.with("N2S011C099C101"), (x, upper) -> x.cost(0, 0, upper), 1, 1);
        MendedOrNew x = Bounds.with("N3S014S024C107C299M0150");
        x.rule(0, 2, 1);
        Bounds.fraction(x, (y, upper) -> y.cost(0, 0, upper), 7, 1);
        x.rule(0, 1, 1);
        Bounds.fraction(x, (y, upper) -> y.cost(0, 0, upper), 57, 1);
        Bounds.promise(20, "from each of them each other one can be come to: not on each morning");
        x = Bounds.with("N5S015S025S135S145S235S245C010M0004");
        Bounds.due(x.put(0, 0, 6), 2);
        Bounds.fraction(x, (y, upper) -> y.cost(0, 0, upper), 7, 1);
        Bounds.promise(20, "a MENDING costs, and brings it to its WEAR at once: WEAR 0 is not come to again");
        x = Bounds.with("N3S015S025C010M0005");
        Bounds.due(x.put(0, 0, 6), 2);
        Bounds.fraction(x, (y, upper) -> y.cost(0, 0, upper), 15, 1);
        Bounds.promise(20, "each morning its ACT is done: also at WEAR 0, to which another MENDING leads");
        // from 2 it is brought to 0 for a day, from 0 to 1 at once: each WEAR on one morning of three
        x = Bounds.with("N3S125C009C299M0004M1102");
        Bounds.due(x.put(0, 0, 2 * 25 + 1), 2);
        Bounds.fraction(x, (y, upper) -> y.cost(0, 0, upper), 5, 1);
        Bounds.promise(20, "THE COST, least and greatest");
        Bounds.fraction(new MendedOrNew(), (y, upper) -> y.cost(0, 0, upper), 0, 1);
        x = Bounds.with("N2C099M0099");
        x.rule(3, 0, 1);
        Bounds.fraction(x, (y, upper) -> y.cost(0, 3, upper), 198, 1);
        Bounds.promise(20, "THE COST of what goes by one tenth alone, by nine");
        x = Bounds.with("N2S011C199M0005", "N2S019C199M0005");
        x.rule(0, 1, 1);
        Bounds.fraction(x, (y, upper) -> y.cost(0, 0, upper), 1, 2);
        Bounds.fraction(x, (y, upper) -> y.cost(1, 0, upper), 9, 2);
        Bounds.promise(20, "THE COST of eight WEARS, in least terms");
        x = Bounds.with(SLOW);
        Bounds.due(x.put(0, 1, 4), 1);
        Bounds.fraction(x, (y, upper) -> y.cost(0, 1, upper), 891, 70);
    }

    private static void which() {
        Bounds.promise(21, "UNKNOWN: there is no such MACHINE, RULE");
        Bounds.range(SHOP, 0, 2, U, (x, v) -> x.which(v, 0, 1));
        Bounds.range(SHOP, 0, 3, U, (x, v) -> x.which(0, v, 1));
        Bounds.range(SHOP, 0, 3, U, (x, v) -> x.which(0, 1, v));
        Bounds.promise(21, "STATE: the first, the second, both");
        MendedOrNew x = Bounds.with(Bounds.PUMP);
        x.rule(1, 0, 4);
        x.rule(2, 1, 3);
        Bounds.due(x.which(0, 1, 0), S);
        Bounds.due(x.which(0, 0, 1), S);
        Bounds.due(x.which(0, 1, 2), S);
        Bounds.due(x.which(0, 1, 1), S);
        Bounds.refused(() -> shopWithAct(0, 0, 4), y -> y.which(0, 0, 0), S);
        Bounds.promise(21, "UNKNOWN ahead of STATE");
        Bounds.due(x.which(0, 1, 4), U);
        Bounds.due(x.which(0, -1, 1), U);
        Bounds.due(x.which(3, 1, 1), U);
        Bounds.promise(21, "Whether the first RULE costs less (1), the second (2), both as much (3)");
        x = Bounds.with(Bounds.PUMP, SLOW);
        x.put(0, 0, 5);
        x.put(0, 1, 1);
        x.put(0, 2, 6);
        // 5/2, 20/7, 5/2: the morning at WEAR 2 does not come
        Bounds.due(x.which(0, 0, 1), 1);
        Bounds.due(x.which(0, 1, 0), 2);
        Bounds.due(x.which(0, 0, 2), 3);
        Bounds.due(x.which(0, 0, 0), 3);
        // 99 always, 891/70 and 99 * 9/60: by the WEARS that go by ahead of a MENDING
        x.put(1, 0, 0);
        x.put(1, 1, 4);
        x.put(1, 2, 24);
        Bounds.due(x.which(1, 0, 1), 2);
        Bounds.due(x.which(1, 1, 2), 1);
        Bounds.due(x.which(1, 2, 0), 1);
    }

    private static void best() {
        Bounds.promise(22, "UNKNOWN: there is no such MACHINE");
        Bounds.range(SHOP, 0, 2, U, (x, v) -> x.best(v));
        Bounds.promise(22, "STATE: there are more than 1024 (by MENDINGS there are and 1, to the power of WEARS)");
        String[] mendings = {"", "M3000", "M1000M3000", "M0000M1000M2000", "M0000M1000M2000M3000"};
        for (int n = 0; n <= 4; n++) {
            for (int k = 2; k <= 8; k++) {
                MendedOrNew x = Bounds.with("N" + k + mendings[n]);
                boolean few = Math.pow(n + 1, k) < 1024.5;
                Bounds.due(x.best(0), few ? 0 : S);
                Bounds.due(x.bestCost(0, true), few ? 0 : S);
                Bounds.due(x.bestCost(0, false), few ? 1 : S);
            }
        }
        Bounds.refused(() -> shopWithMachine("N6M0000M1000M2000"), x -> x.best(1), S);
        Bounds.promise(22, "1024 RULES at most: all of 1024 are looked at");
        // WEAR 0 is left by the third MENDING alone, once; then it is done at 2, 3, 4
        MendedOrNew x = Bounds.with("N5S121S131S141C099C299C399C499M0050M1050M2101");
        Bounds.due(x.best(0), 3 * 625 + 3 * 25 + 3 * 5 + 3);
        Bounds.fraction(x, (y, upper) -> y.bestCost(0, upper), 3, 10);
        // no MENDING leads to WEAR 4, where a day costs nothing: it can end for sure only where it costs 99, first at 1
        x = Bounds.with("N5C009C199C299C399S011S021S031S041M0350M1250M2150");
        Bounds.due(x.best(0), 25 + 3 * 5 + 1);
        Bounds.fraction(x, (y, upper) -> y.bestCost(0, upper), 99, 1);
        Bounds.promise(22, "NONE: no COST is told");
        Bounds.due(Bounds.with(FORK).best(0), NO);
        Bounds.due(Bounds.with("N8S015S025").best(0), NO);
        Bounds.promise(22, "of like ones the least number");
        Bounds.due(new MendedOrNew().best(2), 0);
        Bounds.due(Bounds.with("N2S015C150M0005M1005").best(0), 1);
        Bounds.due(Bounds.with("N2S015C150M1005M3005").best(0), 2);
        Bounds.due(Bounds.with("N2S015C150M3005M2005").best(0), 3);
        Bounds.due(Bounds.with("N2S015C150M3005").best(0), 4);
        Bounds.due(Bounds.with("N2S015C105M0005").best(0), 1);
        // without a MENDING it would end at 1 or at 2, and no COST be told; all others cost 5
        Bounds.due(Bounds.with("N3S015S025C105C205M0005").best(0), 1);
        Bounds.promise(22, "ACTS as figures to the base 5, that of WEAR 0 the highest");
        Bounds.due(Bounds.with("N3C050M0100").best(0), 25);
        Bounds.due(Bounds.with("N4C050M3100").best(0), 4 * 125);
        Bounds.promise(22, "THE BEST RULE of the MACHINE as it is: made anew, or not");
        x = Bounds.with(Bounds.PUMP);
        Bounds.due(x.best(0), 5);
        Bounds.type(x, "N2L");
        Bounds.due(x.make(0), S);
        Bounds.due(x.best(0), 5);
        Bounds.type(x, "N3C050M0100");
        Bounds.due(x.make(0), 3);
        Bounds.due(x.best(0), 25);
        Bounds.due(x.best(1), 0);
        // a dearer one, one without MENDINGS, one of which none is told
        Bounds.type(x, "N2S015C150M1020");
        Bounds.due(x.make(0), 2);
        Bounds.due(x.best(0), 2);
        Bounds.fraction(x, (y, upper) -> y.bestCost(0, upper), 10, 1);
        Bounds.type(x, "N2S015C199");
        Bounds.due(x.make(0), 2);
        Bounds.due(x.best(0), 0);
        Bounds.fraction(x, (y, upper) -> y.bestCost(0, upper), 99, 1);
        Bounds.type(x, FORK);
        Bounds.due(x.make(0), 3);
        Bounds.due(x.best(0), NO);
        Bounds.fraction(x, (y, upper) -> y.bestCost(0, upper), NO, NO);
    }

    private static MendedOrNew shopWithMachine(String text) {
        MendedOrNew x = Bounds.workshop();
        Bounds.type(x, text);
        x.make(1);
        Bounds.type(x, Bounds.LEAK);
        return x;
    }

    private static void bestCost() {
        Bounds.promise(23, "UNKNOWN: there is no such MACHINE");
        Bounds.rangeFraction(SHOP, 0, 2, U, (x, v) -> x.bestCost(v, true), (x, v) -> x.bestCost(v, false));
        Bounds.promise(23, "Its COST; NONE (above and below)");
        Bounds.fraction(Bounds.with(FORK), (x, upper) -> x.bestCost(0, upper), NO, NO);
        Bounds.promise(23, "STATE: there are more than 1024 (above and below)");
        Bounds.refusedFraction(() -> shopWithMachine("N6M0000M1000M2000"), (x, upper) -> x.bestCost(1, upper), S);
        Bounds.refusedFraction(() -> shopWithMachine("N5M0000M1000M2000M3000"), (x, upper) -> x.bestCost(1, upper), S);
        Bounds.promise(23, "STATE ahead of NONE: it is not asked where there are more");
        Bounds.fraction(Bounds.with("N8S015S025M0000M1000"), (x, upper) -> x.bestCost(0, upper), S, S);
        Bounds.promise(23, "Its COST, least and greatest, in least terms");
        Bounds.fraction(new MendedOrNew(), (x, upper) -> x.bestCost(0, upper), 0, 1);
        Bounds.fraction(Bounds.with("N2C099M0099"), (x, upper) -> x.bestCost(0, upper), 99, 1);
        Bounds.fraction(Bounds.with(SLOW), (x, upper) -> x.bestCost(0, upper), 891, 70);
        Bounds.fraction(Bounds.with("N2S015C150M0005"), (x, upper) -> x.bestCost(0, upper), 5, 2);
    }

    private static void put() {
        Bounds.promise(24, "UNKNOWN: there is no such MACHINE, RULE");
        Bounds.range(SHOP, 0, 2, U, (x, v) -> x.put(v, 0, 0));
        Bounds.range(SHOP, 0, 3, U, (x, v) -> x.put(0, v, 0));
        Bounds.promise(24, "OUTSIDE: there is no such number (of as many figures as the MACHINE has WEARS)");
        int most = 5;
        for (int k = 2; k <= 8; k++) {
            most *= 5;
            int end = most;
            String text = "N" + k;
            Bounds.Setup setup = () -> putSetup(text);
            Bounds.due(setup.make().put(0, 1, 0), 0);
            Bounds.due(setup.make().put(0, 1, end - 1), k);
            MendedOrNew x = setup.make();
            Bounds.due(x.put(0, 1, end), O);
            Bounds.acts(x, 1, 0, 4, 3, 2, 1, 0, 1, 2);
            Bounds.due(x.put(0, 1, -1), O);
            Bounds.due(x.put(0, 1, HIGH), O);
            Bounds.due(x.put(0, 1, Bounds.LOW), O);
            Bounds.acts(x, 1, 0, 4, 3, 2, 1, 0, 1, 2);
        }
        Bounds.refused(SHOP, x -> x.put(0, 0, 125), O);
        Bounds.refused(SHOP, x -> x.put(0, 0, -1), O);
        Bounds.refused(SHOP, x -> x.put(1, 3, 25), O);
        Bounds.refused(SHOP, x -> x.put(2, 3, 625), O);
        Bounds.promise(24, "UNKNOWN ahead of OUTSIDE");
        Bounds.refused(SHOP, x -> x.put(3, 0, -1), U);
        Bounds.refused(SHOP, x -> x.put(0, 4, 125), U);
        Bounds.refused(SHOP, x -> x.put(0, -1, HIGH), U);
        Bounds.promise(24, "what a number tells (for its WEARS; else nothing): how many ACTS are not 0");
        MendedOrNew x = putSetup("N3");
        Bounds.due(x.put(0, 1, 4 * 25 + 1), 2);
        Bounds.acts(x, 1, 4, 0, 1);
        Bounds.acts(x, 2);
        x = putSetup("N8");
        Bounds.due(x.put(0, 1, 2 * 78125 + 3), 2);
        Bounds.acts(x, 1, 2, 0, 0, 0, 0, 0, 0, 3);
        x = putSetup("N2");
        Bounds.due(x.put(0, 1, 0), 0);
        Bounds.acts(x, 1);
        Bounds.promise(24, "a number tells ACTS of MENDINGS that are not there, too");
        Bounds.due(new MendedOrNew().put(0, 0, 24), 2);
    }

    /** RULE 1 has something at each WEAR but two. */
    private static MendedOrNew putSetup(String text) {
        MendedOrNew x = Bounds.with(text);
        int[] acts = {0, 4, 3, 2, 1, 0, 1, 2};
        for (int wear = 0; wear < 8; wear++) {
            x.rule(1, wear, acts[wear]);
        }
        return x;
    }

    private static void barCost() {
        Bounds.promise(25, "UNKNOWN: there is no such MACHINE, MENDING");
        Bounds.rangeFraction(SHOP, 0, 0, U, (x, v) -> x.barCost(v, 1, 1, true), (x, v) -> x.barCost(v, 1, 1, false));
        Bounds.rangeFraction(SHOP, 0, 1, U, (x, v) -> x.barCost(0, v, 1, true), (x, v) -> x.barCost(0, v, 1, false));
        Bounds.range(() -> Bounds.with("N2M0000M1001M2002M3003"), 0, 3, U, (x, v) -> x.barCost(0, v, 1, true));
        Bounds.promise(25, "UNKNOWN: also if the MENDING is not there");
        Bounds.refusedFraction(SHOP, (x, upper) -> x.barCost(1, 0, 1, upper), U);
        Bounds.refusedFraction(SHOP, (x, upper) -> x.barCost(2, 1, 1, upper), U);
        Bounds.promise(25, "OUTSIDE: bar (1 to k - 1)");
        for (int k = 2; k <= 8; k++) {
            String text = "N" + k + "M2000";
            Bounds.range(() -> Bounds.with(text), 1, k - 1, O, (x, v) -> x.barCost(0, 2, v, v % 2 == 0));
        }
        Bounds.rangeFraction(SHOP, 1, 2, O, (x, v) -> x.barCost(0, 0, v, true), (x, v) -> x.barCost(0, 0, v, false));
        Bounds.promise(25, "UNKNOWN ahead of OUTSIDE");
        Bounds.refusedFraction(SHOP, (x, upper) -> x.barCost(0, 2, 0, upper), U);
        Bounds.refusedFraction(SHOP, (x, upper) -> x.barCost(3, 0, 9, upper), U);
        Bounds.promise(25, "STATE: THE COST is not told");
        Bounds.Setup split = () -> shopWithMachine("N4S013S023M0200");
        Bounds.refusedFraction(split, (x, upper) -> x.barCost(1, 0, 3, upper), S);
        Bounds.fraction(split.make(), (x, upper) -> x.barCost(1, 0, 2, upper), S, S);
        Bounds.fraction(split.make(), (x, upper) -> x.barCost(1, 0, 1, upper), 0, 1);
        Bounds.promise(25, "OUTSIDE ahead of STATE");
        Bounds.refusedFraction(split, (x, upper) -> x.barCost(1, 0, 4, upper), O);
        Bounds.promise(25, "it is done at all WEARS from b on, else nothing");
        MendedOrNew x = Bounds.with(Bounds.PUMP, "N3S015C101C202M0105");
        Bounds.fraction(x, (y, upper) -> y.barCost(0, 0, 1, upper), 5, 2);
        Bounds.fraction(x, (y, upper) -> y.barCost(0, 0, 2, upper), 20, 7);
        Bounds.fraction(x, (y, upper) -> y.barCost(0, 1, 1, upper), 23, 1);
        Bounds.fraction(x, (y, upper) -> y.barCost(0, 1, 2, upper), 7, 1);
        Bounds.fraction(x, (y, upper) -> y.barCost(1, 0, 1, upper), 6, 1);
        Bounds.fraction(x, (y, upper) -> y.barCost(1, 0, 2, upper), 1, 1);
        Bounds.promise(25, "THE COST of a BAR (RULES stay as they are)");
        x = Bounds.workshop();
        Bounds.due(x.barCost(0, 0, 1, true), 5);
        Bounds.acts(x, 0, 0, 0, 1, 2);
    }

    private static void bar() {
        Bounds.promise(26, "UNKNOWN: there is no such MACHINE");
        Bounds.range(SHOP, 0, 2, U, (x, v) -> x.bar(v));
        Bounds.promise(26, "NONE: none is told");
        Bounds.due(new MendedOrNew().bar(0), NO);
        Bounds.due(Bounds.with("N8S011S121").bar(0), NO);
        Bounds.promise(26, "10 times the MENDING and the BAR, of like ones the least");
        Bounds.due(Bounds.with("N2M0000M1000M2000M3000").bar(0), 1);
        Bounds.due(Bounds.with("N2M1000M2000M3000").bar(0), 11);
        Bounds.due(Bounds.with("N8M3600M2600").bar(0), 21);
        Bounds.due(Bounds.with("N8M3600").bar(0), 31);
        Bounds.due(Bounds.with("N3S015S122C103C230M0060M2060").bar(0), 2);
        Bounds.due(Bounds.with("N3S015S122C103C230M0060M2059").bar(0), 22);
        Bounds.promise(26, "the BAR whose COST is least: the first and the last that there is");
        Bounds.due(Bounds.with(Bounds.PUMP).bar(0), 1);
        Bounds.due(Bounds.with(SLOW).bar(0), 37);
        Bounds.promise(26, "whose COST is least: those whose COST is not told do not count");
        Bounds.due(Bounds.with("N4S013S023M0250").bar(0), 1);
    }
}
