/** Promises 10 to 17 at their edges: weights that are heavy, that are none, and what they tell. */
final class ThoughtBounds {
    private static final int U = Bounds.U, S = Bounds.S, F = Bounds.F;
    private static final long HEAVIEST = Bounds.HEAVIEST;
    private static final Bounds.Setup SHOP = Bounds::workshop;
    /**
     * A day brings 1, 1, 8; a day without a knock then makes the middle one ten times as heavy:
     * by hear() it comes to 10 to the power 15, by day() to one above that.
     */
    private static final String SCALES = "N3S011S028K09K29";
    /** As many tenths go as stay, and a knock that is not heard leaves a tenth of what is BROKEN. */
    private static final String BELL = "N2S015K19L0M0000";

    private ThoughtBounds() {
    }

    static void all() {
        day();
        hear();
        mend();
        look();
        weight();
        chance();
        knock();
        likely();
    }

    /** SCALES with the middle weight at 10 to the power 14, and others that are not at first. */
    private static MendedOrNew nearlyFull() {
        MendedOrNew x = Bounds.workshop();
        Bounds.type(x, SCALES);
        x.make(1);
        x.day(1);
        for (int i = 0; i < 14; i++) {
            x.hear(1, false);
        }
        return x;
    }

    private static MendedOrNew full() {
        MendedOrNew x = nearlyFull();
        x.hear(1, false);
        return x;
    }

    private static void day() {
        Bounds.promise(10, "UNKNOWN: there is no such MACHINE");
        Bounds.range(SHOP, 0, 2, U, (x, v) -> x.day(v));
        Bounds.promise(10, "A THOUGHT of which some weight would be above 10 to the power 15 is refused (FULL)");
        MendedOrNew x = nearlyFull();
        Bounds.weights(x, 1, 1, HEAVIEST / 10, 8);
        Bounds.refused(ThoughtBounds::nearlyFull, y -> y.day(1), F);
        Bounds.refused(ThoughtBounds::full, y -> y.day(1), F);
        Bounds.due(x.day(1), F);
        Bounds.weights(x, 1, 1, HEAVIEST / 10, 8);
        Bounds.due(x.hear(1, false), 1);
        Bounds.promise(10, "some weight: it need not be the first, nor the last");
        MendedOrNew last = Bounds.with("N2S019");
        Bounds.days(last, 0, 15);
        Bounds.weights(last, 0, 1, HEAVIEST - 1);
        Bounds.due(last.day(0), F);
        Bounds.weights(last, 0, 1, HEAVIEST - 1);
        MendedOrNew first = Bounds.with("N2S011");
        Bounds.days(first, 0, 15);
        Bounds.weights(first, 0, 205891132094649L, HEAVIEST - 205891132094649L);
        Bounds.due(first.day(0), F);
        Bounds.promise(10, "in least terms (no whole number but 1 is in all of them)");
        MendedOrNew half = Bounds.with("N2S015", "N3S012S024", "N2");
        Bounds.days(half, 0, 49);
        Bounds.weights(half, 0, 1, (1L << 49) - 1);
        Bounds.due(half.day(0), F);
        Bounds.days(half, 1, 1);
        Bounds.weights(half, 1, 2, 1, 2);
        Bounds.days(half, 2, 100);
        Bounds.weights(half, 2, 1, 0);
        Bounds.promise(10, "by what is left of ten tenths it stays: nothing, if all ten lead away");
        MendedOrNew gone = Bounds.with("N3S015S025");
        Bounds.days(gone, 0, 1);
        Bounds.weights(gone, 0, 0, 1, 1);
        Bounds.days(gone, 0, 1);
        Bounds.weights(gone, 0, 0, 1, 1);
        Bounds.promise(10, "THE THOUGHT of a MACHINE: no other one's");
        MendedOrNew three = Bounds.workshop();
        Bounds.due(three.day(1), 1);
        Bounds.weights(three, 0, 5, 13, 2);
        Bounds.weights(three, 1, 49, 51);
        Bounds.weights(three, 2, 7, 2, 4, 0);
    }

    private static void hear() {
        Bounds.promise(11, "UNKNOWN: there is no such MACHINE");
        Bounds.range(SHOP, 0, 2, U, (x, v) -> x.hear(v, false));
        Bounds.range(() -> Bounds.with("N2K01", "N2K01", "N2K01"), 0, 2, U, (x, v) -> x.hear(v, true));
        Bounds.promise(11, "one without any weight, too (STATE)");
        Bounds.refused(SHOP, x -> x.hear(1, true), S);
        Bounds.refused(MendedOrNew::new, x -> x.hear(0, true), S);
        Bounds.refused(() -> Bounds.with("N2S015K19"), x -> x.hear(0, true), S);
        MendedOrNew bell = Bounds.with(BELL);
        Bounds.days(bell, 0, 1);
        Bounds.due(bell.hear(0, true), 1);
        Bounds.weights(bell, 0, 0, 1);
        Bounds.promise(11, "A knock that is heard: each weight times its q (1 to 9)");
        MendedOrNew x = Bounds.with("N3S013S023K01K29");
        Bounds.days(x, 0, 1);
        Bounds.weights(x, 0, 4, 3, 3);
        Bounds.due(x.hear(0, true), 1);
        Bounds.weights(x, 0, 4, 0, 27);
        Bounds.promise(11, "that is not heard: times 10 less q");
        Bounds.due(x.hear(0, false), 1);
        Bounds.weights(x, 0, 4, 0, 3);
        Bounds.days(x, 0, 1);
        Bounds.weights(x, 0, 8, 6, 21);
        Bounds.due(x.hear(0, false), 1);
        Bounds.weights(x, 0, 24, 20, 7);
        Bounds.promise(11, "A THOUGHT of which some weight would be above 10 to the power 15 is refused (FULL)");
        Bounds.weights(full(), 1, 1, HEAVIEST, 8);
        Bounds.refused(ThoughtBounds::full, y -> y.hear(1, false), F);
        Bounds.due(full().hear(1, true), 1);
        MendedOrNew heavy = Bounds.with(BELL);
        Bounds.days(heavy, 0, 1);
        Bounds.silence(heavy, 0, 15);
        Bounds.weights(heavy, 0, HEAVIEST, 1);
        Bounds.due(heavy.hear(0, false), F);
        Bounds.weights(heavy, 0, HEAVIEST, 1);
        Bounds.due(heavy.hear(0, true), 1);
        Bounds.weights(heavy, 0, 0, 1);
        Bounds.promise(11, "in least terms");
        Bounds.silence(heavy, 0, 40);
        Bounds.weights(heavy, 0, 0, 1);
    }

    private static void mend() {
        Bounds.promise(12, "UNKNOWN: there is no such MACHINE, MENDING");
        Bounds.range(SHOP, 0, 0, U, (x, v) -> x.mend(v, 1));
        Bounds.range(SHOP, 0, 1, U, (x, v) -> x.mend(0, v));
        Bounds.range(() -> Bounds.with("N2M0000M1001M2002M3003"), 0, 3, U, (x, v) -> x.mend(0, v));
        Bounds.promise(12, "UNKNOWN: also if it is not there");
        Bounds.refused(SHOP, x -> x.mend(1, 0), U);
        Bounds.refused(SHOP, x -> x.mend(2, 1), U);
        Bounds.refused(SHOP, x -> x.mend(2, 2), U);
        Bounds.promise(12, "A MENDING: its WEAR; all is at its WEAR");
        MendedOrNew x = Bounds.with("N8S015S025S179M0000M1699M2309M3590");
        int[] wears = {0, 6, 3, 5};
        for (int i = 0; i < 4; i++) {
            Bounds.days(x, 0, 2);
            Bounds.due(x.mend(0, i), wears[i]);
            for (int wear = 0; wear < 8; wear++) {
                Bounds.due(x.weight(0, wear), wear == wears[i] ? 1 : 0);
            }
        }
        Bounds.promise(12, "A MENDING of a THOUGHT that is as heavy as may be");
        MendedOrNew heavy = Bounds.with(BELL);
        Bounds.days(heavy, 0, 1);
        Bounds.silence(heavy, 0, 15);
        Bounds.due(heavy.mend(0, 0), 0);
        Bounds.weights(heavy, 0, 1, 0);
    }

    private static void look() {
        Bounds.promise(13, "UNKNOWN: there is no such MACHINE, WEAR");
        Bounds.range(() -> Bounds.with("N2L0", "N2L1", "N2L9"), 0, 2, U, (x, v) -> x.look(v, 0));
        Bounds.range(SHOP, 0, 2, U, (x, v) -> x.look(0, v));
        Bounds.range(SHOP, 0, 1, U, (x, v) -> x.look(1, v));
        Bounds.promise(13, "STATE: no look can be had");
        Bounds.refused(SHOP, x -> x.look(1, 0), S);
        Bounds.refused(SHOP, x -> x.look(2, 1), S);
        Bounds.refused(MendedOrNew::new, x -> x.look(0, 0), S);
        Bounds.promise(13, "STATE: its weight is 0");
        Bounds.refused(() -> Bounds.with(Bounds.PUMP), x -> x.look(0, 1), S);
        Bounds.refused(() -> Bounds.with(Bounds.PUMP), x -> x.look(0, 2), S);
        Bounds.due(Bounds.with(Bounds.PUMP).look(0, 0), 1);
        Bounds.promise(13, "UNKNOWN ahead of STATE");
        Bounds.refused(SHOP, x -> x.look(1, 2), U);
        Bounds.refused(SHOP, x -> x.look(3, 0), U);
        Bounds.promise(13, "A look: all is at the WEAR that is seen");
        for (int wear = 0; wear < 3; wear++) {
            MendedOrNew x = Bounds.workshop();
            Bounds.due(x.look(0, wear), 1);
            for (int other = 0; other < 3; other++) {
                Bounds.due(x.weight(0, other), other == wear ? 1 : 0);
            }
            Bounds.due(x.look(0, (wear + 1) % 3), S);
        }
        Bounds.promise(13, "A look costs x (0 to 9): one for 0 can be had, and one of a weight of 1 in 10 to the power 15");
        MendedOrNew heavy = Bounds.with(BELL);
        Bounds.days(heavy, 0, 1);
        Bounds.silence(heavy, 0, 15);
        Bounds.due(heavy.look(0, 1), 1);
        Bounds.weights(heavy, 0, 0, 1);
    }

    private static void weight() {
        Bounds.promise(14, "UNKNOWN: there is no such MACHINE, WEAR");
        Bounds.range(SHOP, 0, 2, U, (x, v) -> x.weight(v, 1));
        Bounds.range(SHOP, 0, 2, U, (x, v) -> x.weight(0, v));
        Bounds.range(SHOP, 0, 1, U, (x, v) -> x.weight(1, v));
        Bounds.range(SHOP, 0, 3, U, (x, v) -> x.weight(2, v));
        Bounds.range(() -> Bounds.with("N8"), 0, 7, U, (x, v) -> x.weight(0, v));
        Bounds.promise(14, "The weight of a WEAR: from 0 to 10 to the power 15");
        Bounds.weights(new MendedOrNew(), 0, 1, 0);
        Bounds.weights(full(), 1, 1, HEAVIEST, 8);
    }

    private static void chance() {
        Bounds.promise(15, "UNKNOWN: there is no such MACHINE, WEAR; refusals of FRACTIONS are told likewise");
        Bounds.rangeFraction(SHOP, 0, 2, U, (x, v) -> x.chance(v, 1, true), (x, v) -> x.chance(v, 1, false));
        Bounds.rangeFraction(SHOP, 0, 2, U, (x, v) -> x.chance(0, v, true), (x, v) -> x.chance(0, v, false));
        Bounds.rangeFraction(SHOP, 0, 1, U, (x, v) -> x.chance(1, v, true), (x, v) -> x.chance(1, v, false));
        Bounds.promise(15, "FRACTIONS are told above, below (1 and more), in least terms: none and all");
        MendedOrNew x = new MendedOrNew();
        Bounds.fraction(x, (y, upper) -> y.chance(2, 0, upper), 1, 1);
        Bounds.fraction(x, (y, upper) -> y.chance(2, 1, upper), 0, 1);
        x = Bounds.workshop();
        Bounds.fraction(x, (y, upper) -> y.chance(0, 0, upper), 1, 4);
        Bounds.fraction(x, (y, upper) -> y.chance(0, 1, upper), 13, 20);
        Bounds.fraction(x, (y, upper) -> y.chance(0, 2, upper), 1, 10);
        Bounds.promise(15, "The chance of a WEAR is its weight by all: all may be above 10 to the power 15");
        x = full();
        Bounds.fraction(x, (y, upper) -> y.chance(1, 0, upper), 1, HEAVIEST + 9);
        Bounds.fraction(x, (y, upper) -> y.chance(1, 1, upper), HEAVIEST, HEAVIEST + 9);
        Bounds.fraction(x, (y, upper) -> y.chance(1, 2, upper), 8, HEAVIEST + 9);
    }

    private static void knock() {
        Bounds.promise(16, "UNKNOWN: there is no such MACHINE; refusals of FRACTIONS are told likewise");
        Bounds.rangeFraction(SHOP, 0, 2, U, (x, v) -> x.knock(v, true), (x, v) -> x.knock(v, false));
        Bounds.promise(16, "The chance that a knock is heard now: none");
        Bounds.fraction(Bounds.workshop(), (y, upper) -> y.knock(1, upper), 0, 1);
        Bounds.fraction(Bounds.with(Bounds.PUMP), (y, upper) -> y.knock(0, upper), 0, 1);
        Bounds.promise(16, "The chance that a knock is heard now: q 1 to 9 tenths, in least terms");
        Bounds.fraction(Bounds.with("N2K01"), (y, upper) -> y.knock(0, upper), 1, 10);
        Bounds.fraction(Bounds.with("N2K05"), (y, upper) -> y.knock(0, upper), 1, 2);
        Bounds.fraction(Bounds.with("N2K09"), (y, upper) -> y.knock(0, upper), 9, 10);
        Bounds.fraction(Bounds.workshop(), (y, upper) -> y.knock(0, upper), 12, 25);
        Bounds.promise(16, "The chance that a knock is heard now: by weights that are as heavy as may be");
        Bounds.fraction(full(), (y, upper) -> y.knock(1, upper), 81, 10 * (HEAVIEST + 9));
        MendedOrNew loud = Bounds.with("N2S019K09K19");
        Bounds.days(loud, 0, 15);
        Bounds.fraction(loud, (y, upper) -> y.knock(0, upper), 9, 10);
    }

    private static void likely() {
        Bounds.promise(17, "UNKNOWN: there is no such MACHINE");
        Bounds.range(SHOP, 0, 2, U, (x, v) -> x.likely(v));
        Bounds.promise(17, "The WEAR with the greatest weight, of like ones the least");
        MendedOrNew x = Bounds.with("N3S014S024", "N3S013S023", "N3S015S025");
        for (int m = 0; m < 3; m++) {
            Bounds.due(x.likely(m), 0);
            Bounds.days(x, m, 1);
        }
        Bounds.weights(x, 0, 1, 2, 2);
        Bounds.due(x.likely(0), 1);
        Bounds.weights(x, 1, 4, 3, 3);
        Bounds.due(x.likely(1), 0);
        Bounds.weights(x, 2, 0, 1, 1);
        Bounds.due(x.likely(2), 1);
        MendedOrNew even = Bounds.with("N2S015", "N8S075S065");
        Bounds.days(even, 0, 1);
        Bounds.weights(even, 0, 1, 1);
        Bounds.due(even.likely(0), 0);
        Bounds.days(even, 1, 1);
        Bounds.due(even.likely(1), 6);
        Bounds.promise(17, "The WEAR with the greatest weight: the last one, too");
        Bounds.days(even, 0, 1);
        Bounds.due(even.likely(0), 1);
        MendedOrNew far = Bounds.with("N8S079");
        Bounds.days(far, 0, 1);
        Bounds.due(far.likely(0), 7);
    }
}
