/** Promises 1 to 9 at their edges: bytes, PARTS, FAULTS, and what a MACHINE is asked. */
final class TextBounds {
    private static final int U = Bounds.U, O = Bounds.O, S = Bounds.S, F = Bounds.F, NO = Bounds.NO;
    /** All MENDINGS, all day costs and a look, two knocks: 62 bytes. */
    private static final String LONG = "N8M0699M1600M2500M3400L9C000C199C299C399C499C599C699C799K01K79";
    private static final Bounds.Setup SHOP = Bounds::workshop;

    private TextBounds() {
    }

    static void all() {
        anew();
        write();
        wipe();
        faultOfFirstPart();
        faultOfWays();
        faultOfCosts();
        faultOfKnocks();
        faultOfMendings();
        faultOfLooks();
        faultOfLetters();
        faultOfLengths();
        make();
        about();
        worn();
        goes();
        mending();
    }

    private static void anew() {
        Bounds.promise(1, "Machines of two WEARS, an empty LOG");
        MendedOrNew x = new MendedOrNew();
        for (int m = 0; m < 3; m++) {
            Bounds.due(x.about(m, 0), 2);
            Bounds.due(x.about(m, 1), NO);
            Bounds.due(x.about(m, 2), 0);
            Bounds.weights(x, m, 1, 0);
            for (int wear = 0; wear < 2; wear++) {
                for (int what = 0; what < 3; what++) {
                    Bounds.due(x.worn(m, wear, what), 0);
                }
                Bounds.due(x.goes(m, wear, wear), 10);
                Bounds.due(x.goes(m, wear, 1 - wear), 0);
            }
            for (int i = 0; i < 4; i++) {
                Bounds.due(x.mending(m, i, 0), U);
            }
        }
        Bounds.due(x.unlog(), 0);
        Bounds.promise(1, "MACHINES 0 to 2");
        Bounds.range(MendedOrNew::new, 0, 2, U, (y, v) -> y.about(v, 0));
        Bounds.promise(1, "RULES 0 to 3 tell for each WEAR an ACT (0 at first)");
        for (int rule = 0; rule < 4; rule++) {
            Bounds.acts(x, rule);
        }
        Bounds.promise(1, "THE TEXT is empty at first, and no SLOT keeps anything");
        x = new MendedOrNew();
        Bounds.due(x.fault(), 0);
        Bounds.due(x.wipe(), 0);
        Bounds.due(x.again(0), S);
        Bounds.due(x.again(1), S);
        Bounds.promise(1, "An object is used for at most 512 calls after it has been made");
        x = new MendedOrNew();
        for (int i = 1; i < 512; i++) {
            Bounds.due(x.log(1), i <= 16 ? i : F);
        }
        Bounds.due(x.count(1), 16);
        Bounds.promise(1, "UNKNOWN = -1, OUTSIDE = -2, STATE = -3, FULL = -4, NONE = -9");
        Bounds.due(MendedOrNew.UNKNOWN, -1);
        Bounds.due(MendedOrNew.OUTSIDE, -2);
        Bounds.due(MendedOrNew.STATE, -3);
        Bounds.due(MendedOrNew.FULL, -4);
        Bounds.due(MendedOrNew.NONE, -9);
    }

    // ---- the text

    private static MendedOrNew written(int bytes) {
        MendedOrNew x = new MendedOrNew();
        for (int i = bytes; i > 0; i -= 8) {
            x.write(Math.min(8, i), 0x4E324E324E324E32L);
        }
        return x;
    }

    private static void write() {
        Bounds.promise(2, "n bytes (1 to 8)");
        Bounds.range(SHOP, 1, 8, O, (x, v) -> x.write(v, 65));
        for (int n = 1; n <= 8; n++) {
            Bounds.due(new MendedOrNew().write(n, -1), n);
        }
        Bounds.promise(2, "the lowest n, the highest of these first");
        String text = "N4S019C2";
        int[] faults = {1, NO, 3, 4, 5, NO, 7, 8};
        for (int n = 1; n <= 8; n++) {
            // what stands above the lowest n bytes is odd, and must not come
            long v = n < 8 ? 0xEEEEEEEEEEEEEEEEL << 8 * n : 0;
            for (int i = 0; i < n; i++) {
                v |= (long) text.charAt(i) << 8 * (n - 1 - i);
            }
            MendedOrNew x = new MendedOrNew();
            Bounds.due(x.write(n, v), n);
            Bounds.due(x.fault(), faults[n - 1]);
        }
        MendedOrNew x = new MendedOrNew();
        Bounds.due(x.write(2, Long.MIN_VALUE | 'N' << 8 | '2'), 2);
        Bounds.due(x.write(8, Long.MIN_VALUE), 10);
        Bounds.due(x.fault(), 2);
        Bounds.promise(2, "come behind THE TEXT: how long it is");
        x = new MendedOrNew();
        Bounds.due(x.write(1, 'N'), 1);
        Bounds.due(x.write(2, '8' << 8 | 'L'), 3);
        Bounds.due(x.write(1, '0'), 4);
        Bounds.due(x.make(2), 8);
        Bounds.due(x.about(2, 1), 0);
        Bounds.promise(2, "THE TEXT is bytes (64 at most); FULL: it would be longer than 64 (nothing comes)");
        for (int n = 1; n <= 8; n++) {
            int fits = n;
            Bounds.due(written(64 - n).write(n, 0), 64);
            Bounds.refused(() -> written(65 - fits), y -> y.write(fits, 0), F);
            Bounds.refused(() -> written(64), y -> y.write(fits, 0), F);
        }
        x = written(60);
        Bounds.due(x.write(5, 0), F);
        Bounds.due(x.count(0), 60);
        Bounds.due(x.write(4, 0), 64);
        Bounds.due(x.count(0), 64);
        Bounds.promise(2, "of several the first that a call names: OUTSIDE ahead of FULL");
        Bounds.refused(() -> written(64), y -> y.write(0, 0), O);
        Bounds.refused(() -> written(64), y -> y.write(9, 0), O);
    }

    private static void wipe() {
        Bounds.promise(3, "THE TEXT is empty: how long it was");
        for (int bytes : new int[] {0, 1, 63, 64}) {
            MendedOrNew x = written(bytes);
            Bounds.due(x.wipe(), bytes);
            Bounds.due(x.count(0), 0);
            Bounds.due(x.fault(), 0);
            Bounds.due(x.make(0), S);
            Bounds.due(x.wipe(), 0);
            Bounds.due(x.write(2, 'N' << 8 | '5'), 2);
            Bounds.due(x.make(0), 5);
        }
        Bounds.promise(3, "THE TEXT is empty (else all stays)");
        MendedOrNew x = Bounds.workshop();
        Bounds.due(x.wipe(), 20);
        Bounds.due(x.about(0, 0), 3);
        Bounds.due(x.count(1), 3);
        Bounds.due(x.count(2), 4);
        Bounds.weights(x, 0, 5, 13, 2);
    }

    // ---- faults

    /** The FAULT of a TEXT, and that make() refuses just those that have one. */
    private static void fault(String text, int want) {
        MendedOrNew x = new MendedOrNew();
        Bounds.append(x, text);
        Bounds.due(x.count(0), text.length());
        Bounds.due(x.fault(), want);
        Bounds.due(x.fault(), want);
        Bounds.due(x.make(1), want == NO ? text.charAt(1) - '0' : S);
    }

    private static void faultOfFirstPart() {
        Bounds.promise(4, "Nk: k 2 to 8");
        for (char k = 0; k < 256; k++) {
            fault("N" + k, k >= '2' && k <= '8' ? NO : 1);
        }
        Bounds.promise(4, "the first PART: it must stand");
        fault("", 0);
        fault("N", 1);
        for (char c = 0; c < 256; c++) {
            fault("" + c, c == 'N' ? 1 : 0);
            fault(c + "N2", c == 'N' ? 1 : 0);
        }
        fault("L3", 0);
        fault("C000", 0);
        Bounds.promise(4, "and once alone");
        fault("N2N", 2);
        fault("N2N2", 2);
        fault("N3L0N3", 4);
    }

    private static void faultOfWays() {
        Bounds.promise(4, "Sabc: WEARS 0 to k - 1, a less than b");
        for (int k = 2; k <= 8; k++) {
            for (int a = 0; a <= 9; a++) {
                for (int b = 0; b <= 9; b++) {
                    fault("N" + k + "S" + a + b + "1", a >= k - 1 ? 3 : b <= a || b >= k ? 4 : NO);
                }
            }
        }
        Bounds.promise(4, "Sabc: c 1 to 9");
        for (char c = 0; c < 256; c++) {
            fault("N2S01" + c, c >= '1' && c <= '9' ? NO : 5);
        }
        fault("N2S0:1", 4);
        fault("N2S/11", 3);
        Bounds.promise(4, "no a and b twice");
        fault("N4S011S01", 8);
        fault("N4S011S021S01", 12);
        fault("N4S011S121S012", 12);
        fault("N4S011S121S022S13", 17);
        fault("N4S011S121S022S131S232", NO);
        Bounds.promise(4, "of an a no more than ten tenths together");
        for (int one = 1; one <= 9; one++) {
            for (int other = 1; other <= 9; other++) {
                fault("N3S01" + one + "S02" + other, one + other <= 10 ? NO : 9);
            }
        }
        fault("N5S014S023S033", NO);
        fault("N5S014S023S034", 13);
        fault("N5S014S023S032S041", NO);
        fault("N5S014S023S032S042", 17);
        fault("N3S015S025S129", NO);
        Bounds.promise(4, "the first byte by which THE TEXT can be no MACHINE: a, when it has ten tenths already");
        fault("N4S015S025S0", 11);
        fault("N4S015S024S0", 12);
        fault("N4S019S021S03", 11);
        Bounds.promise(4, "the first byte by which THE TEXT can be no MACHINE: a, when all its b are told");
        fault("N4S231S2", 7);
        fault("N4S011S021S031S0", 15);
        fault("N4S131S121S1", 11);
        Bounds.promise(4, "the first byte by which THE TEXT can be no MACHINE: the letter, when no a is left");
        fault("N2S011S", 6);
        fault("N2S019S013", 6);
        fault("N3S011S021S", 11);
        fault("N3S011S021S121S", 14);
        fault("N3S015S025S", 11);
        fault("N3S015S025S121S", 14);
        fault("N4S015S025S131S121S231S", 22);
        fault("N4S015S025S131S121S", 19);
    }

    private static void faultOfCosts() {
        Bounds.promise(4, "Caxy: a day at WEAR a, 0 to k - 1");
        for (int k = 2; k <= 8; k++) {
            for (int a = 0; a <= 9; a++) {
                fault("N" + k + "C" + a + "50", a < k ? NO : 3);
            }
        }
        Bounds.promise(4, "Caxy: costs xy (two figures)");
        for (char c = 0; c < 256; c++) {
            fault("N2C0" + c + "0", c >= '0' && c <= '9' ? NO : 4);
            fault("N2C00" + c, c >= '0' && c <= '9' ? NO : 5);
        }
        Bounds.promise(4, "Caxy: of an a once");
        fault("N2C000C0", 7);
        fault("N2C099C1", 8);
        fault("N3C199C201C150", 11);
        Bounds.promise(4, "the first byte by which THE TEXT can be no MACHINE: C, when all are told");
        fault("N2C000C100C", 10);
        fault("N3C000C100C", 11);
        fault("N3C000C100C200C", 14);
    }

    private static void faultOfKnocks() {
        Bounds.promise(4, "Kaq: at WEAR a, 0 to k - 1");
        for (int k = 2; k <= 8; k++) {
            for (int a = 0; a <= 9; a++) {
                fault("N" + k + "K" + a + "5", a < k ? NO : 3);
            }
        }
        Bounds.promise(4, "Kaq: q tenths (1 to 9)");
        for (char q = 0; q < 256; q++) {
            fault("N2K1" + q, q >= '1' && q <= '9' ? NO : 4);
        }
        Bounds.promise(4, "Kaq: of an a once");
        fault("N2K01K0", 6);
        fault("N2K01K1", 7);
        fault("N3K21K11K23", 9);
        Bounds.promise(4, "the first byte by which THE TEXT can be no MACHINE: K, when all are told");
        fault("N2K01K11K", 8);
        fault("N3K01K11K", 9);
        fault("N3K01K11K21K", 11);
    }

    private static void faultOfMendings() {
        Bounds.promise(4, "Mibxy: MENDING i (0 to 3)");
        for (char i = 0; i < 256; i++) {
            fault("N2M" + i + "000", i >= '0' && i <= '3' ? NO : 3);
        }
        Bounds.promise(4, "Mibxy: WEAR b (not BROKEN)");
        for (int k = 2; k <= 8; k++) {
            for (int b = 0; b <= 9; b++) {
                fault("N" + k + "M2" + b + "00", b < k - 1 ? NO : 4);
            }
        }
        fault("N3M0/00", 4);
        Bounds.promise(4, "Mibxy: costs xy");
        for (char c = 0; c < 256; c++) {
            fault("N2M00" + c + "0", c >= '0' && c <= '9' ? NO : 5);
            fault("N2M000" + c, c >= '0' && c <= '9' ? NO : 6);
        }
        Bounds.promise(4, "Mibxy: of an i once");
        fault("N2M0000M0", 8);
        fault("N2M0000M1", 9);
        fault("N3M3000M1000M31", 13);
        Bounds.promise(4, "the first byte by which THE TEXT can be no MACHINE: M, when all are there");
        fault("N2M0000M1000M2000M3000", NO);
        fault("N2M0000M1000M2000M", 18);
        fault("N2M0000M1000M2000M3000M", 22);
    }

    private static void faultOfLooks() {
        Bounds.promise(4, "Lx: a look costs x (0 to 9)");
        for (char c = 0; c < 256; c++) {
            fault("N2L" + c, c >= '0' && c <= '9' ? NO : 3);
        }
        Bounds.promise(4, "Lx: once");
        fault("N2L0L", 4);
        fault("N2L9L9", 4);
        fault("N2L00", 4);
    }

    private static void faultOfLetters() {
        Bounds.promise(4, "PARTS, one behind the other, a letter and figures each");
        for (char c = 0; c < 256; c++) {
            fault("N2" + c, "SCKML".indexOf(c) >= 0 ? 3 : 2);
            fault("N2L3" + c, "SCKM".indexOf(c) >= 0 ? 5 : 4);
        }
        fault("N2 L0", 2);
        fault("N2l0", 2);
        fault("N2\0", 2);
        Bounds.promise(4, "the first byte: what is wrong behind it does not matter");
        fault("X1S99", 0);
        fault("N9N9", 1);
        fault("N2S01xS", 5);
    }

    private static void faultOfLengths() {
        Bounds.promise(4, "its length, if it is only not at its end; NONE: none");
        String text = "N8S011S129C099K77M3612L4";
        String ends = " 2 6 10 14 17 22 24 ";
        for (int i = 0; i <= text.length(); i++) {
            fault(text.substring(0, i), ends.contains(" " + i + " ") ? NO : i);
        }
        Bounds.promise(4, "THE TEXT is bytes (64 at most): one that is full may be a MACHINE");
        fault(LONG, NO);
        String full = LONG.replace("K01K79", "S011S021");
        Bounds.due(full.length(), 64);
        fault(full, NO);
        fault(LONG + "K2", 64);
        Bounds.promise(4, "whatever came behind it (its length set aside)");
        fault(LONG + "KK", 63);
        String odd = LONG.replace("K01", "S011");
        Bounds.due(odd.length(), 63);
        fault(odd, NO);
        fault(odd + "S", 64);
        fault(odd + "K", 64);
        fault(odd + "L", 63);
        fault(odd + "C", 63);
        fault(odd + "M", 63);
        fault(odd + "N", 63);
        Bounds.promise(4, "FAULT (THE TEXT stays as it is)");
        MendedOrNew x = Bounds.workshop();
        Bounds.due(x.fault(), NO);
        Bounds.due(x.count(0), 20);
        Bounds.append(x, "K");
        Bounds.due(x.fault(), 21);
        Bounds.append(x, "1");
        Bounds.due(x.fault(), 22);
        Bounds.append(x, "9");
        Bounds.due(x.fault(), NO);
        Bounds.due(x.about(0, 0), 3);
    }

    // ---- machines

    private static void make() {
        Bounds.promise(5, "UNKNOWN (there is no such MACHINE)");
        Bounds.range(SHOP, 0, 2, U, (x, v) -> x.make(v));
        Bounds.promise(5, "STATE: a FAULT");
        for (String text : new String[] {"", "N", "N1", "N9", "N2S", "N2S01", "N2L0L0", "n2", "N3M0200", "N3S015S026"}) {
            for (int m = 0; m < 3; m++) {
                int machine = m;
                Bounds.refused(() -> shopWith(text), x -> x.make(machine), S);
            }
        }
        Bounds.promise(5, "of several the first that a call names: UNKNOWN ahead of STATE");
        Bounds.refused(() -> shopWith(""), x -> x.make(3), U);
        Bounds.refused(() -> shopWith("N2S"), x -> x.make(-1), U);
        Bounds.promise(5, "THE TEXT (that stays as it is) becomes a MACHINE: how many WEARS it has");
        for (int k = 2; k <= 8; k++) {
            MendedOrNew x = new MendedOrNew();
            Bounds.append(x, "N" + k);
            for (int m = 0; m < 3; m++) {
                Bounds.due(x.make(m), k);
                Bounds.due(x.about(m, 0), k);
            }
            Bounds.due(x.wipe(), 2);
        }
        MendedOrNew x = withLong();
        Bounds.due(x.make(0), 8);
        Bounds.due(x.count(0), 62);
        Bounds.due(x.about(0, 2), 15);
        Bounds.due(x.about(0, 1), 9);
        Bounds.due(x.worn(0, 7, 1), 9);
        Bounds.due(x.mending(0, 0, 1), 6);
        Bounds.promise(5, "a MACHINE is what its TEXT says: nothing of the one before it is left");
        Bounds.type(x, "N8");
        Bounds.due(x.make(0), 8);
        Bounds.due(x.about(0, 1), NO);
        Bounds.due(x.about(0, 2), 0);
        for (int wear = 0; wear < 8; wear++) {
            Bounds.due(x.worn(0, wear, 0), 0);
            Bounds.due(x.worn(0, wear, 1), 0);
            Bounds.due(x.worn(0, wear, 2), 0);
        }
        Bounds.promise(5, "when it is made anew, 1 for WEAR 0, else 0");
        x = Bounds.workshop();
        Bounds.weights(x, 0, 5, 13, 2);
        Bounds.due(x.make(0), 3);
        Bounds.weights(x, 0, 1, 0, 0);
        Bounds.weights(x, 1, 7, 3);
        Bounds.weights(x, 2, 7, 2, 4, 0);
    }

    private static MendedOrNew withLong() {
        MendedOrNew x = new MendedOrNew();
        Bounds.append(x, LONG);
        return x;
    }

    private static MendedOrNew shopWith(String text) {
        MendedOrNew x = Bounds.workshop();
        Bounds.type(x, text);
        return x;
    }

    private static void about() {
        Bounds.promise(6, "UNKNOWN: there is no such MACHINE");
        Bounds.range(SHOP, 0, 2, U, (x, v) -> x.about(v, 0));
        Bounds.promise(6, "OUTSIDE: what is 0, 1, 2");
        Bounds.range(SHOP, 0, 2, O, (x, v) -> x.about(0, v));
        Bounds.promise(6, "UNKNOWN ahead of OUTSIDE");
        Bounds.refused(SHOP, x -> x.about(3, 3), U);
        Bounds.refused(SHOP, x -> x.about(-1, -1), U);
        Bounds.promise(6, "what a look costs, NONE");
        for (int cost = 0; cost <= 9; cost++) {
            Bounds.due(Bounds.with("N2L" + cost).about(0, 1), cost);
        }
        Bounds.due(Bounds.with("N2").about(0, 1), NO);
        Bounds.promise(6, "MENDINGS that are there, as bits");
        for (int bits = 0; bits < 16; bits++) {
            StringBuilder text = new StringBuilder("N2");
            for (int i = 3; i >= 0; i--) {
                text.append((bits >> i & 1) != 0 ? "M" + i + "000" : "");
            }
            Bounds.due(Bounds.with(text.toString()).about(0, 2), bits);
        }
    }

    private static void worn() {
        Bounds.promise(7, "UNKNOWN: there is no such MACHINE, WEAR");
        Bounds.range(SHOP, 0, 2, U, (x, v) -> x.worn(v, 0, 0));
        Bounds.range(SHOP, 0, 2, U, (x, v) -> x.worn(0, v, 0));
        Bounds.range(SHOP, 0, 1, U, (x, v) -> x.worn(1, v, 1));
        Bounds.range(SHOP, 0, 3, U, (x, v) -> x.worn(2, v, 2));
        Bounds.promise(7, "OUTSIDE: what is 0, 1, 2");
        Bounds.range(SHOP, 0, 2, O, (x, v) -> x.worn(2, 3, v));
        Bounds.promise(7, "UNKNOWN ahead of OUTSIDE");
        Bounds.refused(SHOP, x -> x.worn(0, 3, 3), U);
        Bounds.refused(SHOP, x -> x.worn(3, 0, -1), U);
        Bounds.promise(7, "what a day costs at a WEAR (0 at first), 00 to 99");
        MendedOrNew x = Bounds.with("N8C000C199C709C690K01K79S011S025S034S129");
        int[] costs = {0, 99, 0, 0, 0, 0, 90, 9};
        int[] knocks = {1, 0, 0, 0, 0, 0, 0, 9};
        int[] leaves = {10, 9, 0, 0, 0, 0, 0, 0};
        for (int wear = 0; wear < 8; wear++) {
            Bounds.due(x.worn(0, wear, 0), costs[wear]);
        }
        Bounds.promise(7, "its knock in tenths (0 at first), 1 to 9");
        for (int wear = 0; wear < 8; wear++) {
            Bounds.due(x.worn(0, wear, 1), knocks[wear]);
        }
        Bounds.promise(7, "tenths by which it leaves it, 0 to ten");
        for (int wear = 0; wear < 8; wear++) {
            Bounds.due(x.worn(0, wear, 2), leaves[wear]);
        }
    }

    private static void goes() {
        Bounds.promise(8, "UNKNOWN: there is no such MACHINE, WEAR");
        Bounds.range(SHOP, 0, 2, U, (x, v) -> x.goes(v, 0, 1));
        Bounds.range(SHOP, 0, 2, U, (x, v) -> x.goes(0, v, 0));
        Bounds.range(SHOP, 0, 2, U, (x, v) -> x.goes(0, 0, v));
        Bounds.range(SHOP, 0, 1, U, (x, v) -> x.goes(1, v, 1));
        Bounds.range(SHOP, 0, 1, U, (x, v) -> x.goes(1, 1, v));
        Bounds.promise(8, "to itself: what is left; by what is left of ten tenths it stays");
        MendedOrNew x = Bounds.with("N4S015S035S121");
        int[][] tenths = {{0, 5, 0, 5}, {0, 9, 1, 0}, {0, 0, 10, 0}, {0, 0, 0, 10}};
        for (int wear = 0; wear < 4; wear++) {
            for (int other = 0; other < 4; other++) {
                Bounds.due(x.goes(0, wear, other), tenths[wear][other]);
            }
        }
    }

    private static void mending() {
        Bounds.promise(9, "UNKNOWN: there is no such MACHINE, MENDING");
        Bounds.range(SHOP, 0, 0, U, (x, v) -> x.mending(v, 1, 0));
        Bounds.range(SHOP, 0, 1, U, (x, v) -> x.mending(0, v, 0));
        Bounds.range(() -> Bounds.with("N2M0000M1001M2002M3003"), 0, 3, U, (x, v) -> x.mending(0, v, 1));
        Bounds.promise(9, "UNKNOWN: also if it is not there");
        Bounds.refused(SHOP, x -> x.mending(1, 0, 0), U);
        Bounds.refused(SHOP, x -> x.mending(2, 1, 0), U);
        Bounds.refused(SHOP, x -> x.mending(2, 2, 1), U);
        Bounds.promise(9, "OUTSIDE: what is 0, 1");
        Bounds.range(SHOP, 0, 1, O, (x, v) -> x.mending(2, 3, v));
        Bounds.promise(9, "UNKNOWN ahead of OUTSIDE");
        Bounds.refused(SHOP, x -> x.mending(0, 2, 2), U);
        Bounds.refused(SHOP, x -> x.mending(3, 0, -1), U);
        Bounds.promise(9, "what a MENDING costs, 00 to 99; its WEAR, 0 to the last but BROKEN");
        MendedOrNew x = Bounds.with("N8M0000M1699M2309M3590");
        int[] costs = {0, 99, 9, 90};
        int[] wears = {0, 6, 3, 5};
        for (int i = 0; i < 4; i++) {
            Bounds.due(x.mending(0, i, 0), costs[i]);
            Bounds.due(x.mending(0, i, 1), wears[i]);
        }
    }
}
