/** Promises 27 to 32 at their edges: PLANS, UNSEEN, TWO MACHINES. */
final class AheadBounds {
    private static final int U = Bounds.U, O = Bounds.O, S = Bounds.S;
    private static final Bounds.Setup SHOP = Bounds::workshop;
    /** From WEAR 0 it surely goes, each day at 1 or 2 costs 50. */
    private static final String FRAIL = "N3S015S025C150C250";
    private static final String BELL = "N2S015K19";
    /** WEAR 1 holds or breaks by halves; BROKEN costs 50 a day, and knocks by 9 tenths. WEAR 0 is of no use. */
    private static final String HALVES = "N3S125C099C250K29M0107";

    private AheadBounds() {
    }

    static void all() {
        planRefused();
        planMornings();
        planPrices();
        planAct();
        unseenRefused();
        unseen();
        unseenDays();
        unseenAct();
        two();
        whom();
        askedAgain();
    }

    private static void planRefused() {
        Bounds.promise(27, "UNKNOWN: machine, wear");
        Bounds.rangeFraction(SHOP, 0, 2, U, (x, v) -> x.plan(v, 0, 1, 1, 0, true), (x, v) -> x.plan(v, 0, 1, 1, 0, false));
        Bounds.rangeFraction(SHOP, 0, 2, U, (x, v) -> x.plan(0, v, 1, 1, 0, true), (x, v) -> x.plan(0, v, 1, 1, 0, false));
        Bounds.range(SHOP, 0, 1, U, (x, v) -> x.plan(1, v, 8, 8, 9, true));
        Bounds.promise(27, "OUTSIDE: days (1 to 8)");
        Bounds.rangeFraction(SHOP, 1, 8, O, (x, v) -> x.plan(0, 0, v, 1, 0, true), (x, v) -> x.plan(0, 0, v, 1, 0, false));
        Bounds.promise(27, "OUTSIDE: p (1 to 8)");
        Bounds.rangeFraction(SHOP, 1, 8, O, (x, v) -> x.plan(0, 0, 1, v, 0, true), (x, v) -> x.plan(0, 0, 1, v, 0, false));
        Bounds.promise(27, "OUTSIDE: f (0 to 9)");
        Bounds.rangeFraction(SHOP, 0, 9, O, (x, v) -> x.plan(0, 0, 1, 1, v, true), (x, v) -> x.plan(0, 0, 1, 1, v, false));
        Bounds.promise(27, "UNKNOWN ahead of OUTSIDE");
        Bounds.refusedFraction(SHOP, (x, upper) -> x.plan(3, 0, 0, 0, -1, upper), U);
        Bounds.refusedFraction(SHOP, (x, upper) -> x.plan(0, 3, 9, 9, 10, upper), U);
    }

    private static void planMornings() {
        Bounds.promise(27, "a MENDING only on mornings 0, p, 2 p, ..");
        MendedOrNew x = Bounds.with(FRAIL + "M0001");
        int[] costs = {7, 203, 252, 301, 301, 301, 301, 350};
        for (int p = 1; p <= 8; p++) {
            int every = p;
            Bounds.fraction(x, (y, upper) -> y.plan(0, 0, 8, every, 0, upper), costs[p - 1], 1);
            // broken at first: the mender is there on morning 0, whatever p
            Bounds.fraction(x, (y, upper) -> y.plan(0, 2, 8, every, 0, upper), costs[p - 1] + 1, 1);
            Bounds.fraction(x, (y, upper) -> y.plan(0, 2, 1, every, 0, upper), 1, 1);
        }
        Bounds.promise(27, "mornings 0, p, 2 p, ..: the morning behind the last DAY is none");
        for (int p = 1; p <= 7; p++) {
            int every = p;
            int days = p;
            int last = p == 1 ? 0 : 50 * (p - 1);
            Bounds.fraction(x, (y, upper) -> y.plan(0, 0, days, every, 0, upper), last, 1);
            Bounds.fraction(x, (y, upper) -> y.plan(0, 0, days + 1, every, 0, upper), last + 1, 1);
        }
        Bounds.promise(27, "A PLAN where there is no MENDING");
        Bounds.fraction(Bounds.with(FRAIL), (y, upper) -> y.plan(0, 0, 8, 1, 0, upper), 350, 1);
        Bounds.fraction(new MendedOrNew(), (y, upper) -> y.plan(2, 1, 8, 8, 9, upper), 0, 1);
        Bounds.promise(27, "A PLAN for a MACHINE of eight WEARS: from each, and by a MENDING to the last but BROKEN");
        MendedOrNew eight = Bounds.with("N8C799M0609", "N8C799");
        for (int wear = 0; wear < 8; wear++) {
            int from = wear;
            Bounds.fraction(eight, (y, upper) -> y.plan(0, from, 8, 1, 0, upper), from == 7 ? 9 : 0, 1);
            Bounds.fraction(eight, (y, upper) -> y.plan(1, from, 8, 1, 0, upper), from == 7 ? 792 : 0, 1);
        }
        Bounds.promise(27, "The least that it costs in the mean, in least terms; the most there may be");
        Bounds.fraction(Bounds.with(Bounds.PUMP), (y, upper) -> y.plan(0, 2, 2, 1, 0, upper), 13, 2);
        Bounds.fraction(Bounds.with("N2C099C199M0099"), (y, upper) -> y.plan(0, 1, 8, 1, 9, upper), 792, 1);
        Bounds.fraction(Bounds.with("N2S011C199"), (y, upper) -> y.plan(0, 0, 8, 1, 0, upper), 2281625379L, 10000000L);
    }

    private static void planPrices() {
        Bounds.promise(27, "on morning t it costs t times f less (f 0 to 9), not less than 0");
        MendedOrNew x = Bounds.with(FRAIL + "M0018", "N3S015S025C109C209M0063");
        int[][] costs = {{18, 36, 54, 72}, {9, 9, 9, 9}, {12, 18, 18, 18}, {10, 12, 12, 12}, {17, 33, 48, 62}};
        int[] falls = {0, 9, 6, 8, 1};
        for (int i = 0; i < falls.length; i++) {
            for (int days = 2; days <= 5; days++) {
                int f = falls[i];
                int n = days;
                Bounds.fraction(x, (y, upper) -> y.plan(0, 0, n, 1, f, upper), costs[i][days - 2], 1);
            }
        }
        // on morning 0 nothing is less
        Bounds.fraction(x, (y, upper) -> y.plan(0, 1, 1, 1, 9, upper), 18, 1);
        Bounds.promise(27, "the last morning and the greatest fall: 7 times 9 less");
        Bounds.fraction(x, (y, upper) -> y.plan(1, 0, 8, 7, 9, upper), 54, 1);
        Bounds.fraction(x, (y, upper) -> y.plan(1, 0, 8, 7, 8, upper), 61, 1);
        Bounds.fraction(x, (y, upper) -> y.plan(1, 0, 8, 8, 9, upper), 63, 1);
        Bounds.fraction(x, (y, upper) -> y.plan(1, 0, 8, 1, 0, upper), 63, 1);
    }

    private static void planAct() {
        Bounds.promise(28, "UNKNOWN: machine, wear");
        Bounds.range(SHOP, 0, 2, U, (x, v) -> x.planAct(v, 0, 1, 1, 0));
        Bounds.range(SHOP, 0, 2, U, (x, v) -> x.planAct(0, v, 1, 1, 0));
        Bounds.range(SHOP, 0, 1, U, (x, v) -> x.planAct(1, v, 8, 8, 9));
        Bounds.promise(28, "OUTSIDE: days (1 to 8), p (1 to 8), f (0 to 9)");
        Bounds.range(SHOP, 1, 8, O, (x, v) -> x.planAct(0, 0, v, 1, 0));
        Bounds.range(SHOP, 1, 8, O, (x, v) -> x.planAct(0, 0, 1, v, 0));
        Bounds.range(SHOP, 0, 9, O, (x, v) -> x.planAct(0, 0, 1, 1, v));
        Bounds.promise(28, "UNKNOWN ahead of OUTSIDE");
        Bounds.refused(SHOP, x -> x.planAct(3, 0, 0, 0, -1), U);
        Bounds.refused(SHOP, x -> x.planAct(0, 3, 9, 9, 10), U);
        Bounds.promise(28, "its first ACT (of like ones the least)");
        Bounds.due(Bounds.with("N2C105M0005").planAct(0, 1, 1, 1, 0), 0);
        Bounds.due(Bounds.with("N2C106M0005").planAct(0, 1, 1, 1, 0), 1);
        Bounds.due(Bounds.with("N2C109M0005M1005").planAct(0, 1, 1, 8, 9), 1);
        Bounds.due(Bounds.with("N2C109M3005M2005").planAct(0, 1, 8, 1, 0), 3);
        Bounds.due(Bounds.with("N2C109M3004M2005").planAct(0, 1, 8, 1, 0), 4);
        Bounds.due(Bounds.with("N2M0000").planAct(0, 1, 8, 1, 0), 0);
        Bounds.promise(28, "its first ACT: on morning 0, whatever p");
        for (int p = 1; p <= 8; p++) {
            Bounds.due(Bounds.with(FRAIL + "M1001").planAct(0, 2, 8, p, 9), 2);
            Bounds.due(Bounds.with(FRAIL + "M1001").planAct(0, 0, 8, p, 9), 0);
        }
    }

    // ---- unseen

    /** All weights together 1000000000, or one more. */
    private static MendedOrNew atMost() {
        MendedOrNew x = Bounds.workshop();
        for (int i = 0; i < 8; i++) {
            x.day(1);
        }
        return x;
    }

    private static MendedOrNew oneAbove() {
        MendedOrNew x = Bounds.workshop();
        Bounds.type(x, BELL);
        x.make(1);
        x.day(1);
        for (int i = 0; i < 9; i++) {
            x.hear(1, false);
        }
        return x;
    }

    private static void unseenRefused() {
        Bounds.promise(29, "UNKNOWN: there is no such MACHINE");
        Bounds.rangeFraction(SHOP, 0, 2, U, (x, v) -> x.unseen(v, 1, true), (x, v) -> x.unseen(v, 1, false));
        Bounds.promise(29, "OUTSIDE: days (1 to 3)");
        Bounds.rangeFraction(SHOP, 1, 3, O, (x, v) -> x.unseen(0, v, true), (x, v) -> x.unseen(0, v, false));
        Bounds.promise(29, "Asked only if all weights are no more than 1000000000 together; STATE");
        Bounds.weights(atMost(), 1, 40353607, 1000000000 - 40353607);
        Bounds.weights(oneAbove(), 1, 1000000000, 1);
        for (int n = 1; n <= 3; n++) {
            int days = n;
            Bounds.fraction(atMost(), (x, upper) -> x.unseen(1, days, upper), 0, 1);
            Bounds.refusedFraction(AheadBounds::oneAbove, (x, upper) -> x.unseen(1, days, upper), S);
            Bounds.due(oneAbove().unseen(0, days, false) > 0 ? 1 : 0, 1);
        }
        Bounds.promise(29, "of several the first that a call names: UNKNOWN, OUTSIDE, STATE");
        Bounds.refusedFraction(AheadBounds::oneAbove, (x, upper) -> x.unseen(1, 0, upper), O);
        Bounds.refusedFraction(AheadBounds::oneAbove, (x, upper) -> x.unseen(1, 4, upper), O);
        Bounds.refusedFraction(SHOP, (x, upper) -> x.unseen(3, 0, upper), U);
        Bounds.refusedFraction(SHOP, (x, upper) -> x.unseen(-1, 4, upper), U);
    }

    private static void unseen() {
        Bounds.promise(29, "UNSEEN by weights that are as many as may be, in least terms");
        MendedOrNew x = Bounds.with("N2S013C199M0099L9", "N2S013C199");
        Bounds.days(x, 0, 9);
        Bounds.days(x, 1, 9);
        Bounds.fraction(x, (y, upper) -> y.unseen(0, 1, upper), 95004992907L, 1000000000L);
        Bounds.fraction(x, (y, upper) -> y.unseen(1, 1, upper), 95004992907L, 1000000000L);
        Bounds.fraction(x, (y, upper) -> y.unseen(1, 3, upper), 28825093446633L, 100000000000L);
        Bounds.promise(29, "then a knock is heard, or not (behind the last DAY it does not matter)");
        MendedOrNew loud = Bounds.with("N2S015K19C120M0010", "N2S015C120M0010");
        Bounds.fraction(loud, (y, upper) -> y.unseen(0, 1, upper), 0, 1);
        Bounds.fraction(loud, (y, upper) -> y.unseen(0, 2, upper), 11, 2);
        Bounds.fraction(loud, (y, upper) -> y.unseen(1, 1, upper), 0, 1);
        Bounds.fraction(loud, (y, upper) -> y.unseen(1, 2, upper), 10, 1);
        Bounds.promise(29, "UNSEEN: of a new MACHINE (nothing costs), and nothing is changed by asking");
        Bounds.fraction(new MendedOrNew(), (y, upper) -> y.unseen(2, 3, upper), 0, 1);
        Bounds.weights(loud, 0, 1, 0);
        Bounds.promise(29, "a look, by which the WEAR is seen and then nothing or a MENDING is done (else none can be had)");
        MendedOrNew looked = Bounds.with("N3S019C140C240M1005M0005L0", "N3S019C140C240M1005M0005");
        Bounds.days(looked, 0, 1);
        Bounds.days(looked, 1, 1);
        Bounds.fraction(looked, (y, upper) -> y.unseen(0, 1, upper), 9, 2);
        Bounds.fraction(looked, (y, upper) -> y.unseen(1, 1, upper), 5, 1);
    }

    /** At WEAR 1 for sure, or BROKEN for sure. */
    private static MendedOrNew halves(String text, boolean broken) {
        MendedOrNew x = Bounds.with(text);
        Bounds.due(x.mend(0, 0), 1);
        if (broken) {
            Bounds.days(x, 0, 1);
            Bounds.due(x.hear(0, true), 1);
            Bounds.weights(x, 0, 0, 0, 1);
        }
        return x;
    }

    /** A DAY behind which no knock was heard. */
    private static MendedOrNew quiet(String text) {
        MendedOrNew x = halves(text, false);
        Bounds.days(x, 0, 1);
        Bounds.due(x.hear(0, false), 1);
        Bounds.weights(x, 0, 0, 10, 1);
        return x;
    }

    private static void unseenDays() {
        Bounds.promise(29, "UNSEEN for some DAYS (1 to 3), by a MENDING: one, two, three");
        // BROKEN by 1 of 11 where no knock was heard: 45/100 * 7 + 55/100 * 50/11 behind the first day
        Bounds.fraction(halves(HALVES, false), (x, upper) -> x.unseen(0, 1, upper), 0, 1);
        Bounds.fraction(halves(HALVES, false), (x, upper) -> x.unseen(0, 2, upper), 113, 20);
        Bounds.fraction(halves(HALVES, false), (x, upper) -> x.unseen(0, 3, upper), 4633, 400);
        Bounds.fraction(halves(HALVES, true), (x, upper) -> x.unseen(0, 1, upper), 7, 1);
        Bounds.fraction(halves(HALVES, true), (x, upper) -> x.unseen(0, 2, upper), 253, 20);
        Bounds.fraction(halves(HALVES, true), (x, upper) -> x.unseen(0, 3, upper), 7 * 400 + 4633, 400);
        Bounds.promise(29, "UNSEEN for some DAYS (1 to 3), by a look for 1: one, two, three");
        String text = HALVES + "L1";
        Bounds.fraction(halves(text, false), (x, upper) -> x.unseen(0, 1, upper), 0, 1);
        Bounds.fraction(halves(text, false), (x, upper) -> x.unseen(0, 2, upper), 81, 20);
        Bounds.fraction(halves(text, false), (x, upper) -> x.unseen(0, 3, upper), 81, 10);
        Bounds.fraction(halves(text, true), (x, upper) -> x.unseen(0, 3, upper), 151, 10);
        Bounds.promise(29, "a look, by which the WEAR is seen: WEAR 0, at which a day costs, too");
        MendedOrNew seen = Bounds.with("N2S015C004C120M0005L0", "N2C005L0");
        Bounds.days(seen, 0, 1);
        Bounds.fraction(seen, (x, upper) -> x.unseen(0, 1, upper), 13, 2);
        Bounds.due(seen.unseenAct(0, 1), 5);
        Bounds.fraction(seen, (x, upper) -> x.unseen(1, 3, upper), 15, 1);
        Bounds.promise(29, "UNSEEN for a MACHINE of eight WEARS: a look for 0 at the last two, and a MENDING to the last but BROKEN");
        MendedOrNew eight = Bounds.with("N8S065S075C620C799M1507L0");
        Bounds.days(eight, 0, 1);
        Bounds.fraction(eight, (x, upper) -> x.unseen(0, 1, upper), 7, 1);
        Bounds.due(eight.unseenAct(0, 1), 2);
        Bounds.promise(30, "its first ACT, for one DAY, two, three");
        for (int days = 1; days <= 3; days++) {
            Bounds.due(halves(text, false).unseenAct(0, days), 0);
            Bounds.due(halves(text, true).unseenAct(0, days), 1);
            Bounds.due(quiet(text).unseenAct(0, days), 5);
        }
        Bounds.promise(29, "by THE THOUGHT: BROKEN by 1 of 11, and a look; or none can be had");
        Bounds.fraction(quiet(text), (x, upper) -> x.unseen(0, 1, upper), 18, 11);
        Bounds.fraction(quiet(text), (x, upper) -> x.unseen(0, 2, upper), 1251, 220);
        Bounds.fraction(quiet(HALVES), (x, upper) -> x.unseen(0, 1, upper), 50, 11);
        Bounds.fraction(quiet(HALVES), (x, upper) -> x.unseen(0, 2, upper), 589, 55);
    }

    private static void unseenAct() {
        Bounds.promise(30, "UNKNOWN: there is no such MACHINE");
        Bounds.range(SHOP, 0, 2, U, (x, v) -> x.unseenAct(v, 1));
        Bounds.promise(30, "OUTSIDE: days (1 to 3)");
        Bounds.range(SHOP, 1, 3, O, (x, v) -> x.unseenAct(0, v));
        Bounds.promise(30, "STATE: all weights are more than 1000000000 together");
        for (int n = 1; n <= 3; n++) {
            int days = n;
            Bounds.due(atMost().unseenAct(1, days), 0);
            Bounds.refused(AheadBounds::oneAbove, x -> x.unseenAct(1, days), S);
        }
        Bounds.promise(30, "of several the first that a call names: UNKNOWN, OUTSIDE, STATE");
        Bounds.refused(AheadBounds::oneAbove, x -> x.unseenAct(1, 0), O);
        Bounds.refused(AheadBounds::oneAbove, x -> x.unseenAct(1, 4), O);
        Bounds.refused(SHOP, x -> x.unseenAct(3, 4), U);
        Bounds.promise(30, "its first ACT likewise (of like ones the least): nothing, a MENDING, a look");
        firstAct("N3S015S025C105C205M0005L0", 0);
        firstAct("N3S015S025C106C206M0005L0", 1);
        firstAct("N3S015S025C106C206M1005M2005", 2);
        firstAct("N3S015S025C106C206M3005", 4);
        firstAct("N3S019C140C240M1005M0005L0", 5);
        firstAct("N3S019C140C240M1005M0005L1", 1);
        firstAct("N3S019C140C240M1005M0005", 1);
        // a look and then a MENDING with a chance of 9 tenths costs as much as the MENDING does
        firstAct("N3S019C140C240M0010L1", 1);
        firstAct("N3S019C140C240M0011L1", 5);
        Bounds.promise(30, "nothing (0), where a look costs 0 and shows nothing new");
        Bounds.due(Bounds.with("N2L0M0000").unseenAct(0, 3), 0);
    }

    /** Its first ACT for one DAY, behind one. */
    private static void firstAct(String text, int want) {
        MendedOrNew x = Bounds.with(text);
        Bounds.days(x, 0, 1);
        Bounds.due(x.unseenAct(0, 1), want);
    }

    // ---- two machines

    private static void two() {
        Bounds.promise(31, "UNKNOWN: machines (both may be one and the same kind)");
        Bounds.rangeFraction(SHOP, 0, 2, U, (x, v) -> x.two(v, 0, 1, 0, 1, true), (x, v) -> x.two(v, 0, 1, 0, 1, false));
        Bounds.rangeFraction(SHOP, 0, 2, U, (x, v) -> x.two(1, 0, v, 0, 1, true), (x, v) -> x.two(1, 0, v, 0, 1, false));
        for (int m = 0; m < 3; m++) {
            MendedOrNew x = Bounds.workshop();
            Bounds.due(x.two(m, 0, m, 1, 1, true), 0);
        }
        Bounds.promise(31, "UNKNOWN: wears");
        Bounds.rangeFraction(SHOP, 0, 2, U, (x, v) -> x.two(0, v, 2, 3, 1, true), (x, v) -> x.two(0, v, 2, 3, 1, false));
        Bounds.rangeFraction(SHOP, 0, 2, U, (x, v) -> x.two(2, 3, 0, v, 1, true), (x, v) -> x.two(2, 3, 0, v, 1, false));
        Bounds.range(SHOP, 0, 3, U, (x, v) -> x.two(2, v, 1, 1, 6, true));
        Bounds.range(SHOP, 0, 1, U, (x, v) -> x.two(2, 3, 1, v, 6, true));
        Bounds.promise(31, "OUTSIDE: days (1 to 6)");
        Bounds.rangeFraction(SHOP, 1, 6, O, (x, v) -> x.two(0, 0, 0, 0, v, true), (x, v) -> x.two(0, 0, 0, 0, v, false));
        Bounds.promise(31, "UNKNOWN ahead of OUTSIDE");
        Bounds.refusedFraction(SHOP, (x, upper) -> x.two(0, 3, 0, 0, 0, upper), U);
        Bounds.refusedFraction(SHOP, (x, upper) -> x.two(0, 0, 1, 2, 7, upper), U);
        Bounds.refusedFraction(SHOP, (x, upper) -> x.two(0, 0, 3, 0, 7, upper), U);
        Bounds.promise(31, "each morning one of both is to run its DAY: at both costs, least and greatest");
        MendedOrNew x = Bounds.with("N2C199", "N8C798");
        Bounds.fraction(x, (y, upper) -> y.two(0, 1, 0, 1, 6, upper), 594, 1);
        Bounds.fraction(x, (y, upper) -> y.two(0, 1, 1, 7, 6, upper), 588, 1);
        Bounds.fraction(x, (y, upper) -> y.two(1, 7, 0, 1, 1, upper), 98, 1);
        Bounds.fraction(x, (y, upper) -> y.two(0, 1, 1, 6, 6, upper), 0, 1);
        Bounds.promise(31, "the other one rests (it costs nothing and stays): of one kind, too, each has its WEAR");
        MendedOrNew pump = Bounds.with(Bounds.PUMP);
        Bounds.fraction(pump, (y, upper) -> y.two(0, 0, 0, 2, 3, upper), 129, 20);
        Bounds.fraction(pump, (y, upper) -> y.two(0, 2, 0, 0, 3, upper), 129, 20);
    }

    /** What was asked before leaves nothing behind. */
    private static void askedAgain() {
        MendedOrNew x = Bounds.with("N2S015C005C150M0007L1", "N8S011C003C799");
        for (int i = 0; i < 3; i++) {
            Bounds.promise(27, "The least that it costs: asked again, and behind longer ones");
            Bounds.fraction(x, (y, upper) -> y.plan(0, 0, 1, 1, 0, upper), 5, 1);
            Bounds.due(x.plan(0, 1, 8, 3, 1, true) > 0 ? 1 : 0, 1);
            Bounds.promise(29, "The least in the mean: asked again, and behind longer ones");
            Bounds.fraction(x, (y, upper) -> y.unseen(0, 1, upper), 5, 1);
            Bounds.due(x.unseen(1, 3, true) > 0 ? 1 : 0, 1);
            Bounds.promise(31, "The least that some DAYS cost: asked again, and behind longer ones");
            Bounds.fraction(x, (y, upper) -> y.two(0, 0, 1, 0, 1, upper), 3, 1);
            Bounds.fraction(x, (y, upper) -> y.two(0, 0, 0, 0, 1, upper), 5, 1);
            Bounds.fraction(x, (y, upper) -> y.two(0, 1, 0, 1, 6, upper), 300, 1);
            Bounds.promise(32, "Whom to run first: asked again, and behind others");
            Bounds.due(x.whom(0, 0, 1, 0, 1), 1);
            Bounds.due(x.whom(1, 0, 0, 0, 6), 0);
        }
    }

    private static void whom() {
        Bounds.promise(32, "UNKNOWN: machines, wears");
        Bounds.range(SHOP, 0, 2, U, (x, v) -> x.whom(v, 0, 1, 0, 1));
        Bounds.range(SHOP, 0, 2, U, (x, v) -> x.whom(1, 0, v, 0, 1));
        Bounds.range(SHOP, 0, 2, U, (x, v) -> x.whom(0, v, 2, 3, 1));
        Bounds.range(SHOP, 0, 2, U, (x, v) -> x.whom(2, 3, 0, v, 1));
        Bounds.range(SHOP, 0, 1, U, (x, v) -> x.whom(1, v, 2, 3, 1));
        Bounds.promise(32, "OUTSIDE: days (1 to 6)");
        Bounds.range(SHOP, 1, 6, O, (x, v) -> x.whom(0, 0, 0, 0, v));
        Bounds.promise(32, "UNKNOWN ahead of OUTSIDE");
        Bounds.refused(SHOP, x -> x.whom(0, 0, 0, 3, 0), U);
        Bounds.refused(SHOP, x -> x.whom(3, 0, 0, 0, 7), U);
        Bounds.promise(32, "0 the first, if both do as well; 1 the second");
        MendedOrNew x = Bounds.with("N2C005C106", "N2C006C105");
        Bounds.due(x.whom(0, 0, 1, 1, 1), 0);
        Bounds.due(x.whom(0, 0, 1, 1, 6), 0);
        Bounds.due(x.whom(1, 1, 0, 0, 6), 0);
        Bounds.due(x.whom(0, 0, 1, 0, 6), 0);
        Bounds.due(x.whom(0, 1, 1, 1, 6), 1);
        Bounds.due(x.whom(0, 1, 0, 0, 1), 1);
        Bounds.due(x.whom(0, 0, 0, 0, 6), 0);
    }
}
