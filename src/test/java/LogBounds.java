/** Promises 33 to 39 at their edges: THE LOG, empty and full, read and late; SLOTS; counts. */
final class LogBounds {
    private static final int U = Bounds.U, O = Bounds.O, S = Bounds.S, F = Bounds.F, NO = Bounds.NO;
    private static final long HEAVIEST = Bounds.HEAVIEST;
    private static final Bounds.Setup SHOP = Bounds::workshop;
    /** After two days a hundredth is BROKEN, 18 are between. */
    private static final String STEPS = "N3S011S121M0100";

    private LogBounds() {
    }

    static void all() {
        log();
        unlog();
        readRefused();
        read();
        lateRefused();
        late();
        keep();
        again();
        count();
    }

    private static MendedOrNew shopWithRows(int... rows) {
        MendedOrNew x = Bounds.workshop();
        x.unlog();
        for (int row : rows) {
            x.log(row);
        }
        return x;
    }

    private static void log() {
        Bounds.promise(33, "OUTSIDE: row (0 to 5)");
        Bounds.range(SHOP, 0, 5, O, (x, v) -> x.log(v));
        Bounds.promise(33, "THE LOG is rows (16 at most); FULL: 16");
        MendedOrNew x = new MendedOrNew();
        for (int i = 1; i <= 16; i++) {
            Bounds.due(x.log(i % 6), i);
        }
        for (int row = 0; row <= 5; row++) {
            int one = row;
            Bounds.due(x.log(row), F);
            Bounds.due(x.count(1), 16);
            Bounds.refused(() -> shopWithRows(Bounds.same(0, 16)), y -> y.log(one), F);
        }
        Bounds.due(shopWithRows(Bounds.same(5, 15)).log(0), 16);
        Bounds.promise(33, "of several the first that a call names: OUTSIDE ahead of FULL");
        Bounds.refused(() -> shopWithRows(Bounds.same(0, 16)), y -> y.log(6), O);
        Bounds.refused(() -> shopWithRows(Bounds.same(0, 16)), y -> y.log(-1), O);
        Bounds.promise(33, "A row of THE LOG: of a MENDING that no MACHINE has, too");
        Bounds.due(new MendedOrNew().log(5), 1);
    }

    private static void unlog() {
        Bounds.promise(34, "THE LOG is empty: how long it was");
        for (int n : new int[] {0, 1, 15, 16}) {
            MendedOrNew x = shopWithRows(Bounds.same(0, n));
            Bounds.due(x.unlog(), n);
            Bounds.due(x.count(1), 0);
            Bounds.due(x.unlog(), 0);
            Bounds.due(x.read(0), 0);
            Bounds.due(x.late(0, 0, 1), NO);
            Bounds.due(x.log(0), 1);
        }
        Bounds.promise(34, "THE LOG is empty (THOUGHTS stay)");
        MendedOrNew x = Bounds.workshop();
        Bounds.due(x.unlog(), 3);
        Bounds.weights(x, 0, 5, 13, 2);
        Bounds.weights(x, 2, 7, 2, 4, 0);
    }

    private static void readRefused() {
        Bounds.promise(35, "UNKNOWN: machine");
        Bounds.range(SHOP, 0, 2, U, (x, v) -> x.read(v));
        Bounds.range(() -> shopWithRows(), 0, 2, U, (x, v) -> x.read(v));
        Bounds.promise(35, "by the first row that is refused: UNKNOWN (its MENDING is not there)");
        for (int i = 0; i < 4; i++) {
            int row = 2 + i;
            MendedOrNew x = shopWithRows(row);
            Bounds.due(x.read(0), i < 2 ? 1 : U);
            Bounds.refused(() -> shopWithRows(row), y -> y.read(1), U);
            Bounds.refused(() -> shopWithRows(0, 0, row), y -> y.read(1), U);
        }
        Bounds.promise(35, "by the first row that is refused: STATE");
        Bounds.refused(() -> shopWithRows(1), x -> x.read(1), S);
        Bounds.refused(() -> shopWithRows(0, 0, 0, 1), x -> x.read(1), S);
        Bounds.refused(SHOP, x -> x.read(1), S);
        Bounds.promise(35, "by the first row that is refused: FULL (as a THOUGHT would be)");
        Bounds.due(shopWithRows(Bounds.same(0, 15)).read(1), 15);
        Bounds.refused(() -> shopWithRows(Bounds.same(0, 16)), x -> x.read(1), F);
        MendedOrNew x = Bounds.with("N2S019");
        Bounds.rows(x, Bounds.same(0, 15));
        Bounds.due(x.read(0), 15);
        Bounds.weights(x, 0, 1, HEAVIEST - 1);
        Bounds.due(x.log(0), 16);
        Bounds.due(x.read(0), F);
        Bounds.weights(x, 0, 1, HEAVIEST - 1);
        Bounds.promise(35, "FULL by a knock that is not heard, and the last weight that is allowed");
        // each row makes the first ten times as heavy: what goes on is no more than a tenth of what is left
        x = Bounds.with("N3S015S025K19");
        Bounds.rows(x, Bounds.same(0, 16));
        Bounds.due(x.read(0), F);
        Bounds.rows(x, Bounds.same(0, 15));
        Bounds.due(x.read(0), 15);
        Bounds.weights(x, 0, 0, 1, HEAVIEST);
        Bounds.promise(35, "by the first row that is refused: whatever the rows behind it are");
        Bounds.refused(() -> shopWithRows(2, 1), y -> y.read(1), U);
        Bounds.refused(() -> shopWithRows(1, 2), y -> y.read(1), S);
        int[] rows = Bounds.same(0, 16);
        rows[15] = 3;
        Bounds.refused(() -> shopWithRows(rows), y -> y.read(1), U);
        rows[14] = 1;
        Bounds.refused(() -> shopWithRows(rows), y -> y.read(1), S);
        Bounds.promise(35, "1 a DAY and a knock: in one row, the DAY is refused (FULL) ahead of the knock (STATE)");
        int[] both = Bounds.same(0, 16);
        both[15] = 1;
        Bounds.refused(() -> shopWithRows(both), y -> y.read(1), F);
        Bounds.refused(() -> shopWithRows(both), y -> y.late(1, 1, 100), F);
        Bounds.promise(35, "UNKNOWN: machine, ahead of what a row is refused for");
        Bounds.refused(() -> shopWithRows(1), y -> y.read(3), U);
    }

    private static void read() {
        Bounds.promise(35, "It is READ from a THOUGHT that is at WEAR 0; how many rows: none, and 16");
        MendedOrNew x = shopWithRows();
        Bounds.due(x.read(0), 0);
        Bounds.weights(x, 0, 1, 0, 0);
        Bounds.weights(x, 1, 7, 3);
        Bounds.rows(x, 0, 1);
        for (int i = 0; i < 3; i++) {
            Bounds.due(x.read(0), 2);
            Bounds.weights(x, 0, 0, 41, 6);
        }
        Bounds.rows(x, 0, 2, 0, 2, 0, 2, 0, 2, 0, 2, 0, 2, 0, 2, 0, 3);
        Bounds.due(x.read(0), 16);
        Bounds.weights(x, 0, 0, 1, 0);
        Bounds.promise(35, "THE LOG is READ (it stays as it is)");
        Bounds.due(x.count(1), 16);
        Bounds.due(x.read(0), 16);
        Bounds.promise(35, "0 a DAY without a knock, 1 a DAY and a knock, 2 to 5 MENDING 0 to 3");
        x = Bounds.with("N5S019K19M0000M1100M2200M3300");
        Bounds.rows(x, 0);
        Bounds.due(x.read(0), 1);
        Bounds.weights(x, 0, 10, 9, 0, 0, 0);
        Bounds.rows(x, 1);
        Bounds.due(x.read(0), 1);
        Bounds.weights(x, 0, 0, 1, 0, 0, 0);
        for (int i = 0; i < 4; i++) {
            Bounds.rows(x, 1, 2 + i);
            Bounds.due(x.read(0), 2);
            for (int wear = 0; wear < 5; wear++) {
                Bounds.due(x.weight(0, wear), wear == i ? 1 : 0);
            }
        }
    }

    private static void lateRefused() {
        Bounds.promise(36, "UNKNOWN: machine");
        Bounds.range(() -> shopWithRows(0), 0, 2, U, (x, v) -> x.late(v, 0, 1));
        Bounds.promise(36, "OUTSIDE: bar (0 to 7)");
        Bounds.range(SHOP, 0, 7, O, (x, v) -> x.late(0, v, 1));
        Bounds.range(MendedOrNew::new, 0, 7, O, (x, v) -> x.late(0, v, 100));
        Bounds.promise(36, "OUTSIDE: share (1 to 100 in the hundred)");
        Bounds.range(SHOP, 1, 100, O, (x, v) -> x.late(0, 1, v));
        Bounds.promise(36, "of several the first that a call names: UNKNOWN, OUTSIDE, as read()");
        Bounds.refused(SHOP, x -> x.late(3, 8, 0), U);
        Bounds.refused(() -> shopWithRows(1), x -> x.late(1, 8, 1), O);
        Bounds.refused(() -> shopWithRows(5), x -> x.late(1, 1, 0), O);
        Bounds.promise(36, "else as read(), if no row ahead of the one that is refused is LATE: STATE");
        Bounds.refused(() -> shopWithRows(1), x -> x.late(1, 0, 1), S);
        Bounds.refused(() -> shopWithRows(0, 0, 1), x -> x.late(1, 1, 52), S);
        Bounds.due(shopWithRows(0, 0, 1).late(1, 1, 51), 1);
        Bounds.due(shopWithRows(0, 0, 1).late(1, 1, 30), 0);
        Bounds.promise(36, "else as read(), if no row ahead of the one that is refused is LATE: UNKNOWN");
        Bounds.refused(() -> shopWithRows(2), x -> x.late(1, 0, 1), U);
        Bounds.refused(() -> shopWithRows(0, 5), x -> x.late(0, 2, 1), U);
        Bounds.due(shopWithRows(0, 5).late(0, 1, 1), 0);
        Bounds.promise(36, "else as read(), if no row ahead of the one that is refused is LATE: FULL");
        Bounds.refused(() -> shopWithRows(Bounds.same(0, 16)), x -> x.late(1, 1, 100), F);
        Bounds.due(shopWithRows(Bounds.same(0, 15)).late(1, 1, 100), NO);
        Bounds.due(shopWithRows(Bounds.same(0, 16)).late(1, 1, 99), 12);
    }

    private static void late() {
        Bounds.promise(36, "the first row behind which the chance of a WEAR b or more is h in the hundred at least");
        MendedOrNew x = Bounds.with(STEPS);
        Bounds.rows(x, 0, 0, 0);
        // 10, 19, 27.1 at WEAR 1 or more; 0, 1, 2.8 at WEAR 2
        int[][] asked = {{0, 1, 0}, {0, 100, 0}, {1, 1, 0}, {1, 10, 0}, {1, 11, 1}, {1, 19, 1}, {1, 20, 2}, {1, 27, 2},
            {1, 28, NO}, {1, 100, NO}, {2, 1, 1}, {2, 2, 2}, {2, 3, NO}, {3, 1, NO}, {7, 1, NO}};
        for (int[] a : asked) {
            Bounds.due(x.late(0, a[0], a[1]), a[2]);
        }
        Bounds.promise(36, "h in the hundred at least: 100");
        Bounds.rows(x, 0, 2);
        Bounds.due(x.late(0, 1, 100), 1);
        Bounds.due(x.late(0, 2, 1), NO);
        Bounds.promise(36, "LATE, by the number of the row: the last of 16; NONE");
        MendedOrNew last = Bounds.with("N3M0100");
        int[] rows = Bounds.same(0, 16);
        rows[15] = 2;
        Bounds.rows(last, rows);
        Bounds.due(last.late(0, 1, 100), 15);
        Bounds.due(last.late(0, 1, 1), 15);
        Bounds.due(last.late(0, 2, 1), NO);
        Bounds.promise(36, "LATE, by the number of the row: an empty LOG has none");
        Bounds.rows(last);
        Bounds.due(last.late(0, 0, 1), NO);
        Bounds.promise(36, "LATE: THE LOG is READ from a THOUGHT that is at WEAR 0, and THE THOUGHT stays");
        MendedOrNew shop = Bounds.workshop();
        Bounds.due(shop.late(0, 1, 100), 0);
        Bounds.weights(shop, 0, 5, 13, 2);
        Bounds.due(shop.count(1), 3);
        Bounds.promise(36, "LATE by weights that are as heavy as may be");
        MendedOrNew heavy = Bounds.with("N2S019");
        Bounds.rows(heavy, Bounds.same(0, 15));
        Bounds.due(heavy.late(0, 1, 90), 0);
        Bounds.due(heavy.late(0, 1, 99), 1);
        Bounds.due(heavy.late(0, 1, 100), NO);
    }

    private static void keep() {
        Bounds.promise(37, "UNKNOWN: there is no such SLOT (0 to 1)");
        Bounds.range(SHOP, 0, 1, U, (x, v) -> x.keep(v));
        Bounds.promise(37, "They are kept: 1 (0: others were kept there)");
        MendedOrNew x = new MendedOrNew();
        Bounds.due(x.keep(0), 1);
        Bounds.due(x.keep(0), 0);
        Bounds.due(x.keep(1), 1);
        Bounds.due(x.keep(0), 0);
        Bounds.due(x.keep(1), 0);
        Bounds.promise(37, "What is refused changes nothing: it is not kept");
        x = new MendedOrNew();
        Bounds.due(x.keep(2), U);
        Bounds.due(x.keep(-1), U);
        Bounds.due(x.again(0), S);
        Bounds.due(x.again(1), S);
        Bounds.due(x.keep(1), 1);
        Bounds.due(x.again(0), S);
        Bounds.promise(37, "They are kept: the later ones");
        x = Bounds.with(Bounds.LEAK);
        Bounds.due(x.keep(1), 1);
        Bounds.days(x, 0, 1);
        Bounds.due(x.log(3), 1);
        Bounds.due(x.keep(1), 0);
        Bounds.days(x, 0, 1);
        Bounds.due(x.unlog(), 1);
        Bounds.due(x.again(1), 3);
        Bounds.weights(x, 0, 7, 3);
        Bounds.due(x.count(1), 1);
    }

    private static void again() {
        Bounds.promise(38, "UNKNOWN: there is no such SLOT (0 to 1)");
        Bounds.range(SHOP, 0, 1, U, (x, v) -> x.again(v));
        Bounds.promise(38, "STATE: none were kept");
        Bounds.refused(SHOP, x -> x.again(1), S);
        Bounds.refused(MendedOrNew::new, x -> x.again(0), S);
        Bounds.promise(38, "SLOTS keep all THOUGHTS and THE LOG: they are as they were kept");
        MendedOrNew x = Bounds.workshop();
        Bounds.due(x.keep(1), 1);
        Bounds.due(x.again(0), 3);
        Bounds.weights(x, 0, 1, 0, 0);
        Bounds.weights(x, 1, 1, 0);
        Bounds.weights(x, 2, 7, 1, 2, 0);
        Bounds.due(x.count(1), 2);
        Bounds.due(x.read(0), 2);
        Bounds.due(x.again(1), 3);
        Bounds.weights(x, 0, 5, 13, 2);
        Bounds.weights(x, 1, 7, 3);
        Bounds.weights(x, 2, 7, 2, 4, 0);
        Bounds.due(x.count(1), 3);
        Bounds.due(x.late(0, 1, 100), 0);
        Bounds.promise(38, "SLOTS keep THOUGHTS and THE LOG alone: THE TEXT, MACHINES and RULES stay");
        Bounds.due(x.count(0), 20);
        Bounds.acts(x, 1, 0, 4, 3, 3, 0, 0, 0, 1);
        Bounds.due(x.about(0, 2), 3);
        Bounds.promise(38, "as they were kept: also a second time, and whatever came since");
        Bounds.days(x, 0, 3);
        Bounds.due(x.unlog(), 3);
        Bounds.due(x.again(1), 3);
        Bounds.weights(x, 0, 5, 13, 2);
        Bounds.due(x.log(0), 4);
        Bounds.due(x.again(1), 3);
        Bounds.due(x.count(1), 3);
        againMadeAnew();
        againFullLog();
    }

    private static void againMadeAnew() {
        Bounds.promise(38, "a THOUGHT of a MACHINE that was made anew since stays as it is: how many THOUGHTS were taken");
        MendedOrNew x = Bounds.workshop();
        Bounds.due(x.keep(1), 1);
        for (int m = 0; m < 3; m++) {
            Bounds.due(x.make(m), 3);
            Bounds.days(x, m, 1);
            Bounds.due(x.again(1), 2 - m);
            Bounds.weights(x, m, 1, 9, 0);
        }
        Bounds.due(x.again(0), 0);
        Bounds.due(x.count(1), 2);
        Bounds.weights(x, 0, 1, 9, 0);
        Bounds.due(x.keep(0), 0);
        Bounds.days(x, 0, 1);
        Bounds.due(x.again(0), 3);
        Bounds.weights(x, 0, 1, 9, 0);
        Bounds.due(x.again(1), 0);
        Bounds.promise(38, "that was made anew since: by the same TEXT, too; not by a call that was refused");
        x = Bounds.with(Bounds.LEAK);
        Bounds.days(x, 0, 1);
        Bounds.due(x.keep(0), 1);
        Bounds.due(x.write(1, 'S'), 7);
        Bounds.due(x.make(0), S);
        Bounds.due(x.again(0), 3);
        Bounds.type(x, Bounds.LEAK);
        Bounds.due(x.make(0), 2);
        Bounds.due(x.again(0), 2);
        Bounds.weights(x, 0, 1, 0);
    }

    private static void againFullLog() {
        Bounds.promise(38, "THE LOG is as it was kept: an empty one, and one of 16 rows");
        MendedOrNew x = Bounds.with("N3M0000M1100");
        Bounds.due(x.keep(0), 1);
        int[] rows = Bounds.same(2, 16);
        rows[15] = 3;
        Bounds.rows(x, rows);
        Bounds.due(x.keep(1), 1);
        Bounds.due(x.again(0), 3);
        Bounds.due(x.count(1), 0);
        Bounds.due(x.log(5), 1);
        Bounds.due(x.again(1), 3);
        Bounds.due(x.count(1), 16);
        Bounds.due(x.log(0), F);
        Bounds.due(x.late(0, 1, 100), 15);
        Bounds.due(x.read(0), 16);
        Bounds.weights(x, 0, 0, 1, 0);
    }

    private static void count() {
        Bounds.promise(39, "OUTSIDE: what is 0, 1, 2");
        Bounds.range(SHOP, 0, 2, O, (x, v) -> x.count(v));
        Bounds.promise(39, "0 bytes of THE TEXT, 1 rows of THE LOG, 2 MENDINGS of all MACHINES: none");
        MendedOrNew x = new MendedOrNew();
        Bounds.due(x.count(0), 0);
        Bounds.due(x.count(1), 0);
        Bounds.due(x.count(2), 0);
        Bounds.promise(39, "0 bytes of THE TEXT, 1 rows of THE LOG, 2 MENDINGS of all MACHINES: as many as may be");
        x = Bounds.with("N2M0000M1000M2000M3000", "N2M0000M1000M2000M3000", "N2M0000M1000M2000M3000");
        Bounds.due(x.count(2), 12);
        Bounds.append(x, "0123456789012345678901234567890123456789AB");
        Bounds.due(x.count(0), 64);
        Bounds.rows(x, Bounds.same(5, 16));
        Bounds.due(x.count(1), 16);
        Bounds.promise(39, "MENDINGS of all MACHINES: as they are now");
        Bounds.type(x, "N2M3000");
        Bounds.due(x.make(1), 2);
        Bounds.due(x.count(2), 9);
        Bounds.type(x, "N2");
        Bounds.due(x.count(2), 9);
        Bounds.due(x.make(0), 2);
        Bounds.due(x.count(2), 5);
    }
}
