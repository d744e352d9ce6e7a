/** Terms III as far as it is reckoned, promises 29 to 37: rotas, rests, keepers, counts, votes. */
final class ReckonEdges {
    /** Two in PLACE 1 and a third in PLACE 2, of WANT 4, with six DOORS. */
    private static KeyKeepers three() {
        KeyKeepers x = Texts.corridor(6);
        x.prisoner(9, 4, 1);
        x.prisoner(9, 4, 1);
        x.prisoner(9, 4, 2);
        return x;
    }

    private static void rotaIs(KeyKeepers x, int cost, int many, int... row) {
        Edges.due("rota(0)", x.rota(0), cost);
        Edges.due("rota(1)", x.rota(1), many);
        for (int k = 0; k < 6; k++) Edges.due("rota(" + (2 + k) + ")", x.rota(2 + k), many == 0 ? -1 : row[k]);
    }

    private static void noRota(KeyKeepers x) {
        rotaIs(x, -1, 0);
    }

    @Edge(promise = 29, says = "NONE (none, for all but 1).")
    static void noRotaOfNobody() {
        noRota(new KeyKeepers());
        KeyKeepers x = Texts.under("bars");
        noRota(x);
        x.force(-1);
        Edges.due("rota(1) without the law", x.rota(1), 3 * 3 * 3 * 3 * 3 * 3 - 3 * (1 + 6 * 2 + 15 * 4));
        noRota(Texts.under("bars if watch=0"));
        noRota(Texts.under("bars if watch=5"));
        noRota(Texts.under("bars if before=0"));
        Edges.due("status() is not rota()'s", x.status(), 0);
        KeyKeepers y = new KeyKeepers();
        y.image(0);
        for (int p = 0; p < 8; p++) y.prisoner(9, 4, 1);
        Edges.due("rota(0) of eight", y.rota(0), 30);
        y.back(0);
        noRota(y);
    }

    @Edge(promise = 29, says = "whose WATCH k is (2 + k)")
    static void theOnlyRota() {
        KeyKeepers x = Texts.under("bars if person<2");
        x.terms(1, 6);
        rotaIs(x, 42, 1, 2, 2, 2, 2, 2, 2);
        x.force(Texts.law(x, "bars if person=watch%2 or person=2"));
        rotaIs(x, 33, 1, 1, 0, 1, 0, 1, 0);
    }

    @Edge(promise = 29, says = "A ROTA: what it COSTS (what 0), how many there are (1), whose WATCH k is (2 + k).")
    static void nothingElseOfRotas() {
        KeyKeepers x = three();
        Edges.due("rota(7)", x.rota(7), 1);
        Edges.due("rota(8)", x.rota(8), -1);
        Edges.due("rota(-1)", x.rota(-1), -1);
        for (int far : Edges.FAR) Edges.due("rota(" + far + ")", x.rota(far), -1);
    }

    @Edge(promise = 29, says = "none more often than MOST times")
    static void noneMoreOftenThanMost() {
        KeyKeepers x = Texts.crowd(1, 1);
        for (int most = 1; most < 6; most++) {
            x.terms(1, most);
            noRota(x);
        }
        x.terms(1, 6);
        rotaIs(x, 30, 1, 0, 0, 0, 0, 0, 0);
        x.prisoner(9, 4, 1);
        rotaIs(x, 30, 64, 0, 0, 0, 0, 0, 0);
        x.terms(1, 5);
        rotaIs(x, 30, 62, 0, 0, 0, 0, 0, 1);
        x.terms(1, 3);
        rotaIs(x, 30, 20, 0, 0, 0, 1, 1, 1);
        x.terms(1, 2);
        noRota(x);
        x.prisoner(9, 4, 1);
        rotaIs(x, 30, 90, 0, 0, 1, 1, 2, 2);
        x.terms(1, 1);
        noRota(x);
        x.prisoner(9, 4, 1);
        x.prisoner(9, 4, 1);
        noRota(x);
        x.prisoner(9, 4, 1);
        rotaIs(x, 30, 720, 0, 1, 2, 3, 4, 5);
    }

    @Edge(promise = 29, says = "HOW MANY ROTAS there are (COSTS aside).")
    static void mostRotas() {
        KeyKeepers x = Texts.crowd(8, 1);
        x.terms(1, 6);
        rotaIs(x, 30, 262144, 0, 0, 0, 0, 0, 0);
        x.terms(1, 5);
        rotaIs(x, 30, 262136, 0, 0, 0, 0, 0, 1);
        x.terms(1, 1);
        rotaIs(x, 30, 20160, 0, 1, 2, 3, 4, 5);
        x.force(Texts.law(x, "costs 7-person; bars if person<2"));
        rotaIs(x, 15, 720, 2, 3, 4, 5, 6, 7);
    }

    @Edge(promise = 29, says = "(before: as the ROTA has it; 0 for WATCH 0)")
    static void nobodyAheadOfWatchNought() {
        KeyKeepers x = Texts.crowd(1, 1);
        x.terms(1, 6);
        x.force(Texts.law(x, "bars if watch=0 and before=1; costs 9; costs 1 if before=1"));
        rotaIs(x, 14, 1, 0, 0, 0, 0, 0, 0);
        x.force(Texts.law(x, "bars if before=1"));
        noRota(x);
        x.prisoner(9, 4, 1);
        rotaIs(x, 30, 2, 0, 1, 0, 1, 0, 1);
        x.force(Texts.law(x, "bars if before=0 and watch>0"));
        rotaIs(x, 30, 2, 0, 0, 0, 0, 0, 0);
        x.terms(1, 5);
        noRota(x);
    }

    @Edge(promise = 29, says = "that COSTS least together; the first as a row of PRISONERS")
    static void leastAndMostCosts() {
        KeyKeepers x = Texts.crowd(8, 1);
        x.force(Texts.law(x, "costs 999"));
        rotaIs(x, 5994, 262144 - 8 - 8 * 6 * 7 - 8 * 15 * 49, 0, 0, 0, 1, 1, 1);
        x.force(Texts.law(x, "costs 0"));
        Edges.due("rota(0)", x.rota(0), 0);
        x.force(Texts.law(x, "costs 999; costs 998 if person=7 and watch=5"));
        rotaIs(x, 5993, 262144 - 8 - 8 * 6 * 7 - 8 * 15 * 49, 0, 0, 0, 1, 1, 7);
        x.force(Texts.law(x, "costs 9; costs 8 if person=7 and before=1"));
        rotaIs(x, 52, 262144 - 8 - 8 * 6 * 7 - 8 * 15 * 49, 0, 0, 0, 7, 7, 7);
    }

    @Edge(promise = 29, says = "for each WATCH 0 .. 5 a PRISONER not BARRED")
    static void rotasGoByWhatIsSoNow() {
        KeyKeepers x = Texts.crowd(1, 1);
        x.door(0, 1);
        x.terms(1, 6);
        x.force(Texts.law(x, "costs 10*keys+hour+100*mood; bars if years=99"));
        Edges.due("rota(0)", x.rota(0), 0);
        x.pass();
        Edges.due("rota(0) behind pass()", x.rota(0), 6);
        x.undo();
        Edges.due("rota(0) behind undo()", x.rota(0), 0);
        Texts.orders(x, "wait times 2");
        Edges.due("rota(0) behind orders()", x.rota(0), 12);
        x.image(0);
        x.key(0, 0, 1);
        Edges.due("rota(0) behind key()", x.rota(0), 72);
        x.terms(3, 1);
        Edges.due("rota(0) behind terms()", x.rota(0), 672);
        x.back(0);
        Edges.due("rota(0) behind back()", x.rota(0), 12);
        x.prisoner(99, 4, 1);
        x.key(0, 0, 1);
        x.trust(0, 1, 1);
        Edges.due("rota(0) ahead of give()", x.rota(0), 72);
        x.give(0, 0, 1);
        Edges.due("rota(0) behind give()", x.rota(0), 12);
        x.undo();
        Edges.due("rota(0) behind undo()", x.rota(0), 72);
        x.back(0);
        x.force(-1);
        Edges.due("rota(0) behind force()", x.rota(0), 30);
        x.prisoner(9, 0, 1);
        Edges.due("rota(0) behind prisoner()", x.rota(0), 6);
        Texts.row(x, "\1\0\1");
        Edges.due("rota(1) behind row()", x.rota(1), 729);
    }

    @Edge(promise = 30, says = "At REST: who is out, as bits (what 0), in how many rounds, the last one without a change, too (1).")
    static void restsOfNobody() {
        KeyKeepers x = new KeyKeepers();
        Edges.due("rests(0) of nobody", x.rests(0), 0);
        Edges.due("rests(1) of nobody", x.rests(1), 1);
        Edges.due("rests(2)", x.rests(2), -1);
        Edges.due("rests(-1)", x.rests(-1), -1);
        for (int far : Edges.FAR) Edges.due("rests(" + far + ")", x.rests(far), -1);
        x = Texts.under("gains 0");
        Edges.due("rests(0), none stays out", x.rests(0), 0);
        Edges.due("rests(1), none stays out", x.rests(1), 1);
        x = Texts.under("gains 9; fines 1");
        Edges.due("rests(0), all stay out", x.rests(0), 7);
        Edges.due("rests(1), all stay out", x.rests(1), 2);
    }

    @Edge(promise = 30, says = "from nobody out")
    static void restsFromNobodyOut() {
        KeyKeepers x = Texts.under("fines 1; gains 0; gains 9 if others>0");
        Edges.due("rests(0)", x.rests(0), 0);
        Edges.due("rests(1)", x.rests(1), 1);
        x = Texts.under("fines 1; gains 0; gains 9 if others>0 or person=2");
        Edges.due("rests(0)", x.rests(0), 7);
        Edges.due("rests(1)", x.rests(1), 3);
    }

    @Edge(promise = 30, says = "by how many others are out then")
    static void oneselfIsNoOther() {
        KeyKeepers x = Texts.crowd(1, 1);
        x.force(Texts.law(x, "fines 1; gains 0; gains 9 if others=0"));
        Edges.due("rests(0)", x.rests(0), 1);
        Edges.due("rests(1)", x.rests(1), 2);
        x = Texts.crowd(8, 1);
        x.force(Texts.law(x, "fines 1; gains 0; gains 9 if others=person"));
        Edges.due("rests(0): 7 others and oneself", x.rests(0), -1);
        x.force(Texts.law(x, "fines 1; gains 0; gains 9 if others<8"));
        Edges.due("rests(0)", x.rests(0), 255);
    }

    /** Bits 0 .. 7 of each: does one stay out while so many others do. */
    private static KeyKeepers stayers(int[] when) {
        KeyKeepers x = new KeyKeepers();
        for (int bits : when) x.prisoner((bits & 63) == 0 ? 64 : bits & 63, bits >> 6, 1);
        x.force(Texts.law(x, "fines 1; gains years/1%2 if others=0; gains years/2%2 if others=1; gains years/4%2 if others=2;"
            + "gains years/8%2 if others=3; gains years/16%2 if others=4; gains years/32%2 if others=5;"
            + "gains want/1%2 if others=6; gains want/2%2 if others=7"));
        return x;
    }

    @Edge(promise = 30, says = "(50 rounds at most)")
    static void restsInFiftyRounds() {
        int[] fifty = {105, 17, 231, 202, 109, 85, 105, 76};
        KeyKeepers x = stayers(fifty);
        Edges.due("in 50 rounds", x.rests(1), 50);
        Edges.due("who is out", x.rests(0), 253);
        for (int p = 0; p < 8; p++) {
            int others = Integer.bitCount(253 & ~(1 << p));
            Edges.due("at REST, " + p, fifty[p] >> others & 1, 253 >> p & 1);
            for (int k = 0; k < 8; k++) Edges.due("asks(" + p + ", 6, " + k + ")", x.asks(p, 6, k), fifty[p] >> k & 1);
        }
        x = stayers(new int[] {165, 53, 165, 52, 200, 236, 183, 84});
        Edges.due("others in 50 rounds", x.rests(1), 50);
        Edges.due("who is out", x.rests(0), 64);
    }

    @Edge(promise = 30, says = "NONE (not in 50).")
    static void restsNotInFiftyRounds() {
        KeyKeepers x = stayers(new int[] {177, 165, 53, 165, 180, 92, 159, 44});
        Edges.due("in 51 rounds", x.rests(1), -1);
        Edges.due("in 51 rounds", x.rests(0), -1);
        x = Texts.under("fines 1; gains 0; gains 9 if person=0 and others=0; gains 9 if person=1 and others=1");
        Edges.due("never", x.rests(1), -1);
        Edges.due("never", x.rests(0), -1);
    }

    @Edge(promise = 31, says = "each of DOORS 0 .. n less 1 (n 1 .. 6)")
    static void partedHasLimits() {
        KeyKeepers x = Texts.crowd(8, 1);
        for (int d = 0; d < 12; d++) x.door(1, 2);
        int rows = 8;
        for (int n = 1; n < 7; n++) {
            Edges.due("parted(" + n + ", 0)", x.parted(n, 0), rows - 8);
            Edges.due("parted(" + n + ", " + (n + 1) + ")", x.parted(n, n + 1), -1);
            Edges.due("parted(" + n + ", -1)", x.parted(n, -1), -1);
            for (int far : Edges.FAR) Edges.due("parted(" + n + ", " + far + ")", x.parted(n, far), -1);
            if (n > 1) Edges.due("parted(" + n + ", " + n + ")", x.parted(n, n), 1);
            rows *= 8;
        }
        Edges.due("parted(0, 0)", x.parted(0, 0), -1);
        Edges.due("parted(7, 0)", x.parted(7, 0), -1);
        Edges.due("parted(-1, 0)", x.parted(-1, 0), -1);
        for (int far : Edges.FAR) Edges.due("parted(" + far + ", 0)", x.parted(far, 0), -1);
    }

    @Edge(promise = 31, says = "NONE (fewer DOORS; none, for all but 0).")
    static void fewerDoorsOrNone() {
        KeyKeepers x = Texts.crowd(2, 1);
        for (int doors = 0; doors < 7; doors++) {
            Edges.due("parted(" + (doors + 1) + ", 0) of " + doors + " DOORS", x.parted(doors + 1, 0), -1);
            if (doors > 0) Edges.due("parted(" + doors + ", 0)", x.parted(doors, 0), doors > 6 ? -1 : (1 << doors) - 2);
            x.door(1, 2);
        }
        Edges.due("parted(1, 1): one keeps all", x.parted(1, 1), -1);
        KeyKeepers y = Texts.corridor(6);
        for (int people = 0; people < 2; people++) {
            for (int n = 1; n < 7; n++) {
                Edges.due("parted(" + n + ", 0) of " + people, y.parted(n, 0), 0);
                for (int k = 1; k <= n; k++) Edges.due("parted(" + n + ", " + k + ") of " + people, y.parted(n, k), -1);
            }
            y.prisoner(9, 4, 1);
        }
    }

    @Edge(promise = 31, says = "no two who TRUST each other, and no one alone, keep all of them")
    static void noTwoWhoTrustEachOther() {
        KeyKeepers x = three();
        Edges.due("parted(3, 0)", x.parted(3, 0), 24);
        x.trust(0, 1, 1);
        Edges.due("parted(3, 0): one TRUSTS the other alone", x.parted(3, 0), 24);
        x.trust(1, 0, 1);
        Edges.due("parted(3, 0)", x.parted(3, 0), 18);
        int[] first = {0, 0, 2};
        for (int k = 0; k < 3; k++) Edges.due("KEEPER of " + k, x.parted(3, 1 + k), first[k]);
        for (int p = 0; p < 2; p++) {
            x.trust(p, 2, 1);
            x.trust(2, p, 1);
        }
        Edges.due("parted(2, 0): all TRUST each other", x.parted(2, 0), 0);
        Edges.due("parted(2, 1)", x.parted(2, 1), -1);
        Edges.due("parted(3, 0): three may", x.parted(3, 0), 6);
        for (int k = 0; k < 3; k++) Edges.due("KEEPER of " + k, x.parted(3, 1 + k), k);
        Edges.due("parted(6, 0)", x.parted(6, 0), 729 - 3 - 3 * 62);
        for (int k = 0; k < 6; k++) Edges.due("KEEPER of " + k, x.parted(6, 1 + k), Math.max(0, k - 3));
    }

    private static void trustEachOther(KeyKeepers x, int p, int q) {
        x.trust(p, q, 1);
        x.trust(q, p, 1);
    }

    @Edge(promise = 31, says = "the first as a row of KEEPERS")
    static void theFirstKeepers() {
        KeyKeepers x = three();
        x.prisoner(9, 4, 1);
        for (int p = 1; p < 4; p++) trustEachOther(x, 0, p);
        trustEachOther(x, 1, 2);
        Edges.due("parted(2, 0)", x.parted(2, 0), 16 - 4 - 8);
        Edges.due("parted(2, 1)", x.parted(2, 1), 1);
        Edges.due("parted(2, 2)", x.parted(2, 2), 3);
        int[] three = {0, 1, 2};
        for (int k = 0; k < 3; k++) Edges.due("parted(3, " + (1 + k) + ")", x.parted(3, 1 + k), three[k]);
        trustEachOther(x, 1, 3);
        Edges.due("parted(2, 1)", x.parted(2, 1), 2);
        Edges.due("parted(2, 2)", x.parted(2, 2), 3);
        Edges.due("parted(6, 1)", x.parted(6, 1), 0);
        trustEachOther(x, 2, 3);
        Edges.due("parted(2, 1)", x.parted(2, 1), -1);
        Edges.due("parted(4, 0)", x.parted(4, 0), 256 - 4 - 6 * 14);
    }

    @Edge(promise = 32, says = "COUNTS, 8 at most")
    static void noNinthCount() {
        KeyKeepers x = three();
        for (int i = 1; i <= 8; i++) Edges.fine(x, "tally(0, 0)", x.tally(0, 0), i);
        Edges.refused(x, "tally 9", x.tally(1, 0), -5);
        Edges.due("count(3)", x.count(3), 8);
        Edges.due("out(-1) is as it was", x.out(-1), 8);
        Edges.refused(x, "tally 9 that can't be: the first in that order", x.tally(8, 0), -1);
        x.forget();
        Edges.fine(x, "tally(1, 0)", x.tally(1, 0), 1);
    }

    @Edge(promise = 32, says = "A COUNT of a GROUP (bits): how many there are. -1; -5.")
    static void countsThatCannotBe() {
        KeyKeepers x = three();
        Edges.refused(x, "tally(8, 0)", x.tally(8, 0), -1);
        Edges.refused(x, "tally(-1, 0)", x.tally(-1, 0), -1);
        Edges.refused(x, "tally(7, -1)", x.tally(7, -1), -1);
        Edges.refused(x, "tally(7, 4)", x.tally(7, 4), -1);
        Edges.refused(x, "tally(5, 3)", x.tally(5, 3), -1);
        Edges.refused(x, "tally(0, 1)", x.tally(0, 1), -1);
        for (int far : Edges.FAR) {
            Edges.refused(x, "tally(" + far + ", 0)", x.tally(far, 0), -1);
            Edges.refused(x, "tally(7, " + far + ")", x.tally(7, far), -1);
        }
        Edges.due("count(3)", x.count(3), 0);
        Edges.fine(x, "tally(7, 3)", x.tally(7, 3), 1);
        Edges.fine(x, "tally(7, 0)", x.tally(7, 0), 2);
        Edges.fine(x, "tally(0, 0)", x.tally(0, 0), 3);
        KeyKeepers y = new KeyKeepers();
        Edges.refused(y, "tally(1, 0) of nobody", y.tally(1, 0), -1);
        Edges.fine(y, "tally(0, 0) of nobody", y.tally(0, 0), 1);
        KeyKeepers z = Texts.crowd(8, 1);
        Edges.fine(z, "tally(255, 8)", z.tally(255, 8), 1);
        Edges.refused(z, "tally(256, 0)", z.tally(256, 0), -1);
    }

    @Edge(promise = 33, says = "COUNTS are none then: how many there were.")
    static void countsAreForgotten() {
        KeyKeepers x = three();
        Edges.due("forget() of none", x.forget(), 0);
        for (int i = 0; i < 8; i++) x.tally(7, 3);
        x.tally(7, 9);
        Edges.due("forget()", x.forget(), 8);
        Edges.due("status() is not forget()'s", x.status(), -1);
        Edges.due("count(3)", x.count(3), 0);
        Edges.due("out(-1)", x.out(-1), 8);
        Edges.due("forget() again", x.forget(), 0);
    }

    @Edge(promise = 34, says = "how many sets (i NONE), the i-th, as bits. NONE.")
    static void allSetsAndNoSets() {
        KeyKeepers x = new KeyKeepers();
        Edges.due("out(-1) of nobody", x.out(-1), 1);
        Edges.due("out(0) of nobody", x.out(0), 0);
        Edges.due("out(1) of nobody", x.out(1), -1);
        x = Texts.crowd(8, 1);
        Edges.due("out(-1)", x.out(-1), 256);
        for (int i = 0; i < 256; i += 51) Edges.due("out(" + i + ")", x.out(i), i);
        Edges.due("out(256)", x.out(256), -1);
        Edges.due("out(-2)", x.out(-2), -1);
        for (int far : Edges.FAR) Edges.due("out(" + far + ")", x.out(far), -1);
        x.tally(255, 0);
        Edges.due("out(-1): all were out", x.out(-1), 1);
        Edges.due("out(0): all were out", x.out(0), 255);
        x.tally(1, 1);
        Edges.due("out(-1): it can't be", x.out(-1), 0);
        Edges.due("out(0): it can't be", x.out(0), -1);
        x.forget();
        x.tally(255, 8);
        Edges.due("out(-1): nobody was out", x.out(-1), 1);
        Edges.due("out(0): nobody was out", x.out(0), 0);
        Edges.due("out(1): nobody was out", x.out(1), -1);
    }

    @Edge(promise = 34, says = "sets of PRISONERS who were OUTSIDE by which all COUNTS are so")
    static void setsByAllCounts() {
        KeyKeepers x = three();
        x.tally(3, 1);
        int[] sets = {1, 2, 5, 6, -1};
        for (int i = 0; i < 5; i++) Edges.due("out(" + i + ")", x.out(i), sets[i]);
        for (int i = 1; i < 8; i++) x.tally(i == 7 ? 4 : 0, 0);
        Edges.due("out(-1) by the eighth, too", x.out(-1), 2);
        Edges.due("out(0)", x.out(0), 5);
        Edges.due("out(1)", x.out(1), 6);
        x.prisoner(9, 4, 1);
        Edges.due("out(-1) of one more", x.out(-1), 4);
        Edges.due("out(3) of one more", x.out(3), 14);
    }

    @Edge(promise = 35, says = "NONE (no PRISONERS; no sets).")
    static void nobodyToCount() {
        KeyKeepers x = new KeyKeepers();
        Edges.due("next(0) of nobody", x.next(0), -1);
        Edges.due("next(1) of nobody", x.next(1), -1);
        x = three();
        Edges.due("next(2)", x.next(2), -1);
        Edges.due("next(-1)", x.next(-1), -1);
        for (int far : Edges.FAR) Edges.due("next(" + far + ")", x.next(far), -1);
        x.tally(1, 0);
        x.tally(1, 1);
        Edges.due("next(0) of no sets", x.next(0), -1);
        Edges.due("next(1) of no sets", x.next(1), -1);
    }

    @Edge(promise = 35, says = "the GROUP (of one or more)")
    static void groupsOfOneOrMore() {
        KeyKeepers x = Texts.crowd(1, 1);
        Edges.due("next(0) of one", x.next(0), 1);
        Edges.due("next(1) of one", x.next(1), 1);
        x.tally(1, 1);
        Edges.due("next(0) of one set", x.next(0), 1);
        Edges.due("next(1) of one set", x.next(1), 1);
        x = Texts.crowd(8, 1);
        x.tally(255, 8);
        Edges.due("next(0): any is as good", x.next(0), 1);
        Edges.due("next(1): any is as good", x.next(1), 1);
    }

    @Edge(promise = 35, says = "by which the most sets that have one and the same number inside are as few as can be; the lowest as bits")
    static void theLowestGroup() {
        KeyKeepers x = Texts.crowd(2, 1);
        Edges.due("next(0): 1, 2, 1 sets for both, 2, 2 for one", x.next(0), 1);
        Edges.due("next(1)", x.next(1), 2);
        x = Texts.crowd(8, 1);
        Edges.due("next(0): seven as good as eight", x.next(0), 127);
        Edges.due("next(1): twice 35", x.next(1), 70);
        x.tally(1, 1);
        Edges.due("next(0): all but the first", x.next(0), 254);
        Edges.due("next(1)", x.next(1), 35);
        x.tally(128, 0);
        Edges.due("next(0): five as good as six", x.next(0), 62);
        Edges.due("next(1)", x.next(1), 20);
    }

    @Edge(promise = 36, says = "VOTED for a LAW, as bits. NONE (no such LAW).")
    static void noSuchLawToVoteFor() {
        KeyKeepers x = Texts.crowd(8, 1);
        Edges.due("voted(0) without laws", x.voted(0), -1);
        Edges.due("voted(-1), NONE for NONE", x.voted(-1), 0);
        Texts.law(x, "costs 4");
        Edges.due("voted(0)", x.voted(0), 255);
        Edges.due("voted(1)", x.voted(1), -1);
        Edges.due("voted(-2)", x.voted(-2), -1);
        for (int far : Edges.FAR) Edges.due("voted(" + far + ")", x.voted(far), -1);
        x.force(0);
        Edges.due("voted(0) in force", x.voted(0), 0);
        Edges.due("voted(-1)", x.voted(-1), 0);
        KeyKeepers y = new KeyKeepers();
        Edges.due("voted(-1) of nobody", y.voted(-1), 0);
    }

    @Edge(promise = 36, says = "all WATCHES (before 0) COST less together")
    static void lessNotAsMuch() {
        KeyKeepers x = three();
        Texts.law(x, "costs 5");
        Texts.law(x, "costs 5; costs 4 if watch=5 and person=1; costs 6 if watch=5 and person=2");
        Texts.law(x, "costs 5; costs 0 if before=1; bars if person=0");
        Texts.law(x, "costs 10; costs 0 if watch<3; costs 9 if watch=3 and person=2");
        Edges.due("voted(0): as much", x.voted(0), 0);
        Edges.due("voted(1): less by 1", x.voted(1), 2);
        Edges.due("voted(2): before 1, BARRED aside", x.voted(2), 0);
        Edges.due("voted(3): less by 1 together", x.voted(3), 4);
        Texts.law(x, "costs 9; costs 0 if before=0");
        Edges.due("voted(4): before is 0", x.voted(4), 7);
        x.force(1);
        Edges.due("voted(-1)", x.voted(-1), 4);
        Edges.due("voted(3)", x.voted(3), 4);
        Edges.due("voted(1)", x.voted(1), 0);
    }

    private static void sureIs(KeyKeepers x, int f, int bits) {
        Edges.due("sure(" + f + ", 0)", x.sure(f, 0), Integer.bitCount(bits));
        Edges.due("sure(" + f + ", 1)", x.sure(f, 1), bits);
    }

    @Edge(promise = 37, says = "SURE for f 0 .. 8: how many PLACES (what 0), which, as bits (1). NONE.")
    static void forgersHaveLimits() {
        KeyKeepers x = Texts.crowd(8, 1);
        Edges.due("sure(-1, 0)", x.sure(-1, 0), -1);
        Edges.due("sure(9, 0)", x.sure(9, 0), -1);
        Edges.due("sure(0, 2)", x.sure(0, 2), -1);
        Edges.due("sure(0, -1)", x.sure(0, -1), -1);
        for (int far : Edges.FAR) {
            Edges.due("sure(" + far + ", 0)", x.sure(far, 0), -1);
            Edges.due("sure(1, " + far + ")", x.sure(1, far), -1);
        }
        for (int f = 0; f < 9; f++) sureIs(x, f, f < 4 ? 0 : 2);
        KeyKeepers y = new KeyKeepers();
        for (int f = 0; f < 9; f++) sureIs(y, f, 0);
    }

    @Edge(promise = 37, says = "a FORGER may have turned over f of them at most")
    static void noneMayHaveTurnedMore() {
        KeyKeepers x = Texts.crowd(1, 1);
        sureIs(x, 0, 0);
        sureIs(x, 1, 2);
        x.prisoner(9, 4, 1);
        sureIs(x, 1, 2);
        x.prisoner(9, 4, 1);
        sureIs(x, 1, 0);
        sureIs(x, 2, 2);
        x.prisoner(9, 4, 1);
        sureIs(x, 1, 0);
        sureIs(x, 2, 2);
        for (int p = 0; p < 4; p++) x.vote(p, 1);
        sureIs(x, 1, 0);
        sureIs(x, 2, 2);
    }

    @Edge(promise = 37, says = "all in one PLACE that was not counted again")
    static void allInOnePlace() {
        KeyKeepers x = new KeyKeepers();
        for (int place = 1; place < 9; place++) x.prisoner(9, 4, place);
        for (int f = 0; f < 9; f++) sureIs(x, f, 0);
        for (int p = 0; p < 3; p++) x.vote(p, 1);
        sureIs(x, 8, 496);
        sureIs(x, 1, 496);
        x.vote(3, 1);
        sureIs(x, 1, 510);
        sureIs(x, 0, 0);
        x.vote(4, 1);
        sureIs(x, 1, 62);
    }

    @Edge(promise = 37, says = "so that the same side has more VOTES (as many: none has) whatever was done")
    static void asManyHasNone() {
        KeyKeepers x = Texts.corridor(1);
        x.prisoner(9, 4, 1);
        x.prisoner(9, 4, 9);
        x.key(0, 0, 1);
        sureIs(x, 1, 514);
        x.go(0, 0);
        sureIs(x, 1, 513);
        x.vote(0, 1);
        sureIs(x, 0, 0);
        sureIs(x, 1, 513);
        x.prisoner(9, 4, 5);
        sureIs(x, 1, 544);
        x.vote(2, 1);
        sureIs(x, 1, 33);
        x.prisoner(9, 4, 5);
        x.vote(3, 1);
        sureIs(x, 1, 33);
        x.vote(1, 1);
        sureIs(x, 1, 0);
        sureIs(x, 2, 32);
        sureIs(x, 8, 32);
    }
}
