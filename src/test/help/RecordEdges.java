/** Terms IV, promises 38 to 43: nights on paper, images, what is counted, status. */
final class RecordEdges {
    /** DOORS 1 - 2, 1 - 3, 1 - 4; PRISONERS 0, 1 in PLACE 1 with all KEYS. */
    private static KeyKeepers cells() {
        KeyKeepers x = Texts.crowd(2, 1);
        for (int d = 0; d < 3; d++) {
            x.door(1, 2 + d);
            x.key(0, d, 1);
            x.key(1, d, 1);
        }
        return x;
    }

    @Edge(promise = 38, says = "s is the SEED (0 .. 1,000,000)")
    static void seedsHaveLimits() {
        KeyKeepers x = cells();
        Edges.refused(x, "nights(-1, 1)", x.nights(-1, 1), -1);
        Edges.refused(x, "nights(1000001, 1)", x.nights(1000001, 1), -1);
        for (int far : Edges.FAR) {
            if (far < 0 || far > 1000000) Edges.refused(x, "nights(" + far + ", 1)", x.nights(far, 1), -1);
        }
        Edges.due("drawn(0, 0): none yet", x.drawn(0, 0), -1);
        Edges.fine(x, "nights(0, 1)", x.nights(0, 1), 0);
        Edges.fine(x, "nights(1000000, 1)", x.nights(1000000, 1), 0);
    }

    @Edge(promise = 38, says = "NIGHTS with a SEED, n 1 .. 100")
    static void nightsHaveLimits() {
        KeyKeepers x = cells();
        Edges.refused(x, "nights(0, 0)", x.nights(0, 0), -1);
        Edges.refused(x, "nights(0, 101)", x.nights(0, 101), -1);
        Edges.refused(x, "nights(0, -1)", x.nights(0, -1), -1);
        for (int far : Edges.FAR) Edges.refused(x, "nights(0, " + far + ")", x.nights(0, far), -1);
        x.terms(2, 10);
        Edges.fine(x, "nights(0, 1)", x.nights(0, 1), 1);
        Edges.fine(x, "nights(0, 100)", x.nights(0, 100), 100);
    }

    @Edge(promise = 38, says = "-1; -3 there are no PRISONERS, no DOORS.")
    static void nobodyOrNoDoors() {
        KeyKeepers x = new KeyKeepers();
        Edges.refused(x, "nights(0, 1) of nobody, without DOORS", x.nights(0, 1), -3);
        Edges.refused(x, "nights(-1, 1): the first in that order", x.nights(-1, 1), -1);
        Edges.refused(x, "nights(0, 0): the first in that order", x.nights(0, 0), -1);
        x.door(0, 1);
        Edges.refused(x, "nights(0, 1) of nobody", x.nights(0, 1), -3);
        KeyKeepers y = Texts.crowd(1, 1);
        Edges.refused(y, "nights(0, 1) without DOORS", y.nights(0, 1), -3);
        Edges.due("drawn(0, 0)", y.drawn(0, 0), -1);
        y.door(0, 1);
        Edges.fine(y, "nights(0, 1)", y.nights(0, 1), 0);
    }

    @Edge(promise = 38, says = "a DRAW of m: s becomes (s times 1103 and 12345) modulo 1,000,003, it is s modulo m")
    static void drawsOfThreeSeeds() {
        int[] seeds = {0, 1000000, 999999};
        int[] who = {1, 0, 1};
        int[] there = {4, 2, 2};
        int[] draw = {9, 6, 5};
        KeyKeepers x = cells();
        for (int i = 0; i < 3; i++) {
            for (int odds = 0; odds <= 10; odds++) {
                x.terms(2, odds);
                Edges.fine(x, "nights(" + seeds[i] + ", 1), ODDS " + odds, x.nights(seeds[i], 1), draw[i] < odds ? 1 : 0);
                Edges.due("PLACE of the one who goes", x.drawn(who[i], 0), there[i]);
                Edges.due("PLACE of the other", x.drawn(1 - who[i], 0), 1);
                Edges.due("BREAD", x.drawn(0, 1), draw[i] < odds ? 4 : 0);
            }
        }
    }

    /** One PRISONER and one DOOR to OUTSIDE: the draws but each third do not matter. */
    private static void nightsOfOne(int seed, int n, int odds) {
        KeyKeepers x = Texts.crowd(1, 1);
        x.door(0, 1);
        x.key(0, 0, 1);
        x.terms(2, odds);
        int inspections = 0;
        int bread = 0;
        long s = seed;
        for (int draw = 1; draw <= 3 * n; draw++) {
            s = (s * 1103 + 12345) % 1000003;
            if (draw % 3 == 0 && s % 10 < odds) {
                inspections++;
                bread += draw / 3 % 2 == 0 ? 2 : 0;
            }
        }
        Edges.fine(x, "nights(" + seed + ", " + n + "), ODDS " + odds, x.nights(seed, n), inspections);
        Edges.due("drawn(0, 0)", x.drawn(0, 0), n % 2 == 0 ? 1 : 0);
        Edges.due("drawn(0, 1)", x.drawn(0, 1), bread);
    }

    @Edge(promise = 38, says = "below ODDS it is INSPECTED")
    static void oddsOfNights() {
        for (int odds = 0; odds <= 10; odds++) {
            nightsOfOne(0, 100, odds);
            nightsOfOne(1000000, 99, odds);
            nightsOfOne(7, 2, odds);
        }
    }

    @Edge(promise = 38, says = "then a DRAW of 10")
    static void drawnWhateverTheOdds() {
        for (int odds = 0; odds <= 10; odds += 5) {
            KeyKeepers x = cells();
            x.terms(2, odds);
            x.nights(1, 2);
            Edges.due("drawn(0, 0) of two nights, ODDS " + odds, x.drawn(0, 0), 4);
            Edges.due("drawn(1, 0) of two nights, ODDS " + odds, x.drawn(1, 0), 4);
        }
    }

    @Edge(promise = 38, says = "an HOUR passes (at 9,999 it ends there, ahead of any DRAW)")
    static void nightsToTheLastHour() {
        KeyKeepers x = Texts.crowd(1, 1);
        x.door(0, 1);
        x.key(0, 0, 1);
        x.terms(2, 10);
        for (int left = 0; left < 4; left++) {
            x.terms(0, 9999 - left);
            Edges.fine(x, "nights(7, 3), " + left + " hours left", x.nights(7, 3), Math.min(3, left));
            Edges.due("drawn(0, 0), " + left + " hours left", x.drawn(0, 0), left % 2 == 0 ? 1 : 0);
            Edges.due("drawn(0, 1), " + left + " hours left", x.drawn(0, 1), left < 2 ? 0 : 2);
            Edges.due("count(14) is as it was", x.count(14), 9999 - left);
        }
        x.terms(0, 9899);
        Edges.fine(x, "nights(7, 100), 100 hours left", x.nights(7, 100), 100);
        x.terms(0, 9900);
        Edges.fine(x, "nights(7, 100), 99 hours left", x.nights(7, 100), 99);
    }

    @Edge(promise = 38, says = "one GOES there, if it can be")
    static void nobodyGoesWhoCannot() {
        KeyKeepers x = cells();
        for (int d = 0; d < 3; d++) {
            x.key(0, d, 0);
            x.key(1, d, 0);
        }
        x.nights(0, 100);
        Edges.due("drawn(0, 0) without KEYS", x.drawn(0, 0), 1);
        Edges.due("drawn(1, 0) without KEYS", x.drawn(1, 0), 1);
        for (int d = 0; d < 3; d++) x.key(0, d, 1);
        x.nights(0, 1);
        Edges.due("drawn(1, 0) without TRUST", x.drawn(1, 0), 1);
        x.trust(0, 1, 1);
        x.nights(0, 1);
        Edges.due("drawn(1, 0) by TRUST", x.drawn(1, 0), 4);
        x.wall(2, 1);
        x.nights(0, 1);
        Edges.due("drawn(1, 0) WALLED up", x.drawn(1, 0), 1);
    }

    /** The first seed of which the first night is PRISONER 0's and the second PRISONER 1's, if there is one DOOR. */
    private static int firstThenSecond() {
        for (int seed = 0; seed < 1000; seed++) {
            long s = seed;
            boolean good = true;
            for (int draw = 1; draw <= 4; draw++) {
                s = (s * 1103 + 12345) % 1000003;
                if (draw == 1 && s % 2 != 0 || draw == 4 && s % 2 != 1) good = false;
            }
            if (good) return seed;
        }
        return -1;
    }

    @Edge(promise = 38, says = "one GOES there, if it can be")
    static void trustHelpsWhereOneIsOnPaper() {
        int seed = firstThenSecond();
        KeyKeepers x = Texts.crowd(2, 1);
        x.door(1, 2);
        x.key(0, 0, 1);
        x.trust(0, 1, 1);
        x.nights(seed, 2);
        Edges.due("drawn(0, 0): went with the KEY", x.drawn(0, 0), 2);
        Edges.due("drawn(1, 0): the one with the KEY has gone", x.drawn(1, 0), 1);
        x = new KeyKeepers();
        x.prisoner(9, 4, 1);
        x.prisoner(9, 4, 2);
        x.door(1, 2);
        x.key(0, 0, 1);
        x.trust(0, 1, 1);
        x.nights(seed, 2);
        Edges.due("drawn(0, 0): came with the KEY", x.drawn(0, 0), 2);
        Edges.due("drawn(1, 0): the one with the KEY has come", x.drawn(1, 0), 1);
    }

    @Edge(promise = 38, says = "on paper")
    static void inspectedOnPaper() {
        int seed = firstThenSecond();
        KeyKeepers x = Texts.crowd(2, 1);
        x.door(0, 1);
        x.key(0, 0, 1);
        x.key(1, 0, 1);
        x.terms(2, 10);
        Edges.fine(x, "nights, both go out one by one", x.nights(seed, 2), 2);
        Edges.due("drawn(0, 1): 1 and 0 were inside", x.drawn(0, 1), 1);
        x.go(0, 0);
        Edges.fine(x, "nights, one comes in, then the other goes out", x.nights(seed, 2), 2);
        Edges.due("drawn(0, 1): twice 2, then 1", x.drawn(0, 1), 5);
        Edges.due("drawn(0, 0)", x.drawn(0, 0), 1);
        Edges.due("drawn(1, 0)", x.drawn(1, 0), 0);
    }

    @Edge(promise = 38, says = "on paper")
    static void allButPaperIsAsItWas() {
        KeyKeepers x = cells();
        x.terms(2, 10);
        x.pass();
        x.nights(0, 100);
        Edges.due("of(0, 2)", x.of(0, 2), 1);
        Edges.due("of(1, 2)", x.of(1, 2), 1);
        Edges.due("count(13)", x.count(13), 0);
        Edges.due("count(14)", x.count(14), 1);
        Edges.due("count(5)", x.count(5), 1);
        Edges.due("nights(0, 1) begin anew", x.nights(0, 1), 1);
        Edges.due("drawn(1, 0)", x.drawn(1, 0), 4);
        Edges.due("drawn(0, 1)", x.drawn(0, 1), 4);
    }

    @Edge(promise = 39, says = "Behind the latest NIGHTS the PLACE of PRISONER k (what 0), BREAD that came in them (1; k aside). NONE.")
    static void nothingElseIsDrawn() {
        KeyKeepers x = cells();
        for (int k = -1; k < 3; k++) {
            for (int what = -1; what < 3; what++) Edges.due("drawn() ahead of any", x.drawn(k, what), -1);
        }
        x.terms(2, 10);
        x.nights(0, 1);
        Edges.due("drawn(0, 0)", x.drawn(0, 0), 1);
        Edges.due("drawn(1, 0)", x.drawn(1, 0), 4);
        Edges.due("drawn(2, 0)", x.drawn(2, 0), -1);
        Edges.due("drawn(-1, 0)", x.drawn(-1, 0), -1);
        Edges.due("drawn(0, 2)", x.drawn(0, 2), -1);
        Edges.due("drawn(0, -1)", x.drawn(0, -1), -1);
        for (int far : Edges.FAR) {
            Edges.due("drawn(" + far + ", 0)", x.drawn(far, 0), -1);
            Edges.due("drawn(0, " + far + ")", x.drawn(0, far), -1);
            Edges.due("drawn(" + far + ", 1), k aside", x.drawn(far, 1), 4);
        }
    }

    @Edge(promise = 39, says = "BREAD 0 .. 99,999 (0 at first)")
    static void breadIsStoppedOnPaper() {
        KeyKeepers x = Texts.nearlyAllBread();
        x.terms(2, 10);
        x.door(2, 3);
        Edges.due("nights(1, 5)", x.nights(1, 5), 5);
        Edges.due("drawn(0, 1)", x.drawn(0, 1), 15);
        Edges.due("count(13) behind nights", x.count(13), 99984);
        x.inspect();
        Edges.due("nights(1, 5)", x.nights(1, 5), 5);
        Edges.due("drawn(0, 1) at 99,999", x.drawn(0, 1), 0);
    }

    @Edge(promise = 39, says = "Behind the latest NIGHTS")
    static void theLatestNightsStay() {
        KeyKeepers x = cells();
        x.image(0);
        x.nights(0, 1);
        Edges.refused(x, "nights(0, 0)", x.nights(0, 0), -1);
        Edges.due("drawn(1, 0) behind a refusal", x.drawn(1, 0), 4);
        x.prisoner(9, 4, 7);
        x.go(1, 0);
        Edges.due("drawn(1, 0) behind go()", x.drawn(1, 0), 4);
        Edges.due("drawn(2, 0) of one who came later", x.drawn(2, 0), -1);
        x.nights(0, 1);
        Edges.due("drawn(2, 0)", x.drawn(2, 0), 7);
        x.back(0);
        Edges.due("drawn(2, 0) behind back()", x.drawn(2, 0), 7);
    }

    @Edge(promise = 40, says = "IMAGE k is kept: 0; -1.")
    static void noOtherImages() {
        KeyKeepers x = cells();
        Edges.refused(x, "image(2)", x.image(2), -1);
        Edges.refused(x, "image(-1)", x.image(-1), -1);
        for (int far : Edges.FAR) Edges.refused(x, "image(" + far + ")", x.image(far), -1);
        Edges.refused(x, "back(0)", x.back(0), -2);
        Edges.refused(x, "back(1)", x.back(1), -2);
        Edges.fine(x, "image(0)", x.image(0), 0);
        Edges.refused(x, "back(1) of image 0", x.back(1), -2);
        Edges.fine(x, "image(1)", x.image(1), 0);
        Edges.fine(x, "back(1)", x.back(1), 0);
    }

    @Edge(promise = 40, says = "IMAGES 0, 1 keep all but")
    static void imagesAreKeptAnew() {
        KeyKeepers x = Texts.crowd(1, 1);
        x.image(0);
        x.image(1);
        x.prisoner(9, 4, 2);
        x.image(0);
        x.prisoner(9, 4, 3);
        Edges.due("back(1)", x.back(1), 0);
        Edges.due("count(1) of IMAGE 1", x.count(1), 1);
        Edges.due("back(0)", x.back(0), 0);
        Edges.due("count(1) of IMAGE 0", x.count(1), 2);
    }

    @Edge(promise = 41, says = "BACK to IMAGE k: 0. -1; -2 it was not kept.")
    static void noSuchImage() {
        KeyKeepers x = Texts.crowd(1, 1);
        x.pass();
        Edges.refused(x, "back(0)", x.back(0), -2);
        Edges.refused(x, "back(1)", x.back(1), -2);
        Edges.refused(x, "back(2)", x.back(2), -1);
        Edges.refused(x, "back(-1)", x.back(-1), -1);
        for (int far : Edges.FAR) Edges.refused(x, "back(" + far + ")", x.back(far), -1);
        Edges.due("count(1)", x.count(1), 1);
        Edges.due("count(5)", x.count(5), 1);
        x.image(1);
        Edges.refused(x, "back(0) of IMAGE 1", x.back(0), -2);
        Edges.fine(x, "back(1)", x.back(1), 0);
    }

    /** What can be asked of all that IMAGES keep. */
    private static int[] all(KeyKeepers x) {
        int[] all = new int[90];
        int n = 0;
        for (int k = 0; k < 18; k++) if (k != 5 && k != 6 && (k < 7 || k > 11)) all[n++] = x.count(k);
        for (int p = 0; p < 8; p++) {
            for (int k = 0; k < 6; k++) all[n++] = x.of(p, k);
        }
        for (int k = 0; k < 7; k++) all[n++] = x.asks(0, k, 1);
        for (int d = 0; d < 12; d++) all[n++] = x.opens(0, d);
        for (int k = -1; k < 6; k++) all[n++] = x.voted(k);
        all[n++] = x.out(-1);
        all[n++] = x.sure(1, 1);
        all[n++] = x.rests(0);
        all[n++] = x.together();
        all[n++] = x.rota(0);
        return all;
    }

    private static void same(String when, int[] got, int[] want) {
        for (int i = 0; i < want.length; i++) Edges.due("answer " + i + " " + when, got[i], want[i]);
    }

    private static void fill(KeyKeepers x) {
        for (int p = 0; p < 8; p++) x.prisoner(9 + p, p, 1 + p % 2);
        for (int d = 0; d < 12; d++) {
            x.door(d % 4, d % 4 + 1);
            x.key(d % 3, d, 1);
            x.trust(d % 7, 7, 1);
        }
        x.wall(3, 1);
        x.vote(1, 1);
        for (int i = 0; i < 8; i++) x.tally(3, 1);
        for (int i = 0; i < 6; i++) Texts.law(x, "costs " + (2 + i) + ";gains " + i);
        x.force(3);
        for (int k = 1; k < 4; k++) x.terms(k, 6);
        x.inspect();
        x.pass();
        x.go(0, 0);
    }

    @Edge(promise = 41, says = "BACK to one all that it keeps is as it was then (IMAGES stay)")
    static void allIsAsItWasThen() {
        KeyKeepers x = new KeyKeepers();
        x.image(0);
        fill(x);
        x.image(1);
        Edges.fine(x, "back(0)", x.back(0), 0);
        same("of IMAGE 0", all(x), all(new KeyKeepers()));
        x.door(7, 8);
        x.prisoner(77, 7, 7);
        Texts.law(x, "costs 77");
        x.tally(1, 1);
        x.terms(1, 1);
        Edges.fine(x, "back(1)", x.back(1), 0);
        KeyKeepers full = new KeyKeepers();
        fill(full);
        same("of IMAGE 1", all(x), all(full));
    }

    @Edge(promise = 41, says = "BACK to one all that it keeps is as it was then (IMAGES stay)")
    static void imagesStay() {
        KeyKeepers x = new KeyKeepers();
        fill(x);
        x.image(1);
        for (int turn = 0; turn < 2; turn++) {
            x.wall(0, 1);
            x.forget();
            x.force(-1);
            x.vote(0, 1);
            x.key(3, 3, 1);
            x.trust(0, 3, 1);
            x.terms(2, 0);
            x.inspect();
            x.pass();
            x.go(1, 1);
            Edges.fine(x, "back(1), turn " + turn, x.back(1), 0);
        }
        KeyKeepers full = new KeyKeepers();
        fill(full);
        same("of IMAGE 1 again", all(x), all(full));
    }

    @Edge(promise = 41, says = "BACK to one all that it keeps is as it was then (IMAGES stay)")
    static void doorsAndCountsAreAsTheyWereThen() {
        KeyKeepers x = Texts.crowd(2, 1);
        x.image(0);
        x.door(1, 2);
        x.key(0, 0, 1);
        x.tally(3, 1);
        x.image(1);
        x.back(0);
        x.door(3, 4);
        x.key(0, 0, 1);
        x.tally(2, 0);
        x.back(1);
        Edges.due("out(0)", x.out(0), 1);
        Edges.due("out(1)", x.out(1), 2);
        Edges.due("go(0, 0)", x.go(0, 0), 2);
        Edges.due("go(0, 0) back", x.go(0, 0), 1);
    }

    @Edge(promise = 41, says = "IMAGES 0, 1 keep all but the TAPE, FAULT, RATS, where ORDERS stopped, what can be undone (nothing, behind back()), the latest NIGHTS")
    static void whatImagesDoNotKeep() {
        KeyKeepers x = cells();
        x.pass();
        x.image(0);
        Edges.due("count(5) behind image()", x.count(5), 1);
        Texts.orders(x, "wait; wait; inspect; go 5 by 0");
        Texts.law(x, "costs costs");
        Texts.row(x, "\0\0\0\0");
        x.nights(0, 1);
        Texts.put(x, "costs 7");
        x.pass();
        Edges.fine(x, "back(0)", x.back(0), 0);
        Edges.due("count(5)", x.count(5), 0);
        Edges.refused(x, "undo()", x.undo(), -3);
        Edges.due("count(6)", x.count(6), 7);
        Edges.due("fault()", x.fault(), 6);
        Edges.due("rats()", x.rats(), 2);
        Edges.due("stopped()", x.stopped(), 3);
        Edges.due("drawn(1, 0)", x.drawn(1, 0), 4);
        Edges.fine(x, "law() of the TAPE", x.law(), 0);
    }

    @Edge(promise = 42, says = "7 .. 11 how many calls were REFUSED by -1, -2, -3, -5, -6 (IMAGES do not keep that)")
    static void refusalsAreCounted() {
        KeyKeepers x = new KeyKeepers();
        x.image(0);
        for (int d = 0; d < 12; d++) x.door(0, 1);
        int[] by = {1, 2, 3, 4, 5};
        for (int i = 0; i < 1; i++) x.door(1, 1);
        for (int i = 0; i < 2; i++) x.wall(12, 1);
        for (int i = 0; i < 3; i++) x.inspect();
        for (int i = 0; i < 4; i++) x.door(1, 2);
        for (int i = 0; i < 5; i++) x.row();
        for (int i = 0; i < 5; i++) Edges.due("count(" + (7 + i) + ")", x.count(7 + i), by[i]);
        x.back(0);
        for (int i = 0; i < 5; i++) Edges.due("count(" + (7 + i) + ") behind back()", x.count(7 + i), by[i]);
    }

    @Edge(promise = 42, says = "7 .. 11 how many calls were REFUSED by -1, -2, -3, -5, -6")
    static void whatIsNoRefusal() {
        KeyKeepers x = Texts.crowd(1, 1);
        x.of(9, 9);
        x.end(-1);
        x.end(99);
        for (int i = 0; i < 21; i++) x.feed(0, 0, 0, 0, 0);
        x.asks(9, 9, 9);
        x.opens(9, 9);
        x.way(9);
        x.cut(9, 9);
        x.rota(9);
        x.rests(9);
        x.parted(9, 9);
        x.out(999);
        x.next(9);
        x.voted(9);
        x.sure(9, 9);
        x.drawn(9, 9);
        x.count(99);
        x.force(-1);
        for (int k = 7; k < 12; k++) Edges.due("count(" + k + ")", x.count(k), 0);
        Edges.due("status()", x.status(), 0);
    }

    @Edge(promise = 42, says = "NONE for others.")
    static void nothingElseIsCounted() {
        KeyKeepers x = new KeyKeepers();
        Edges.due("count(-1)", x.count(-1), -1);
        Edges.due("count(18)", x.count(18), -1);
        for (int far : Edges.FAR) Edges.due("count(" + far + ")", x.count(far), -1);
        Edges.due("count(17)", x.count(17), 0);
        Edges.due("count(0)", x.count(0), 0);
    }

    @Edge(promise = 42, says = "0 DOORS, 1 PRISONERS, 2 how many are inside, 3 COUNTS, 4 LAWS, 5 how many can be undone, 6 bytes of the TAPE")
    static void asManyAsThereCanBe() {
        KeyKeepers x = Texts.crowd(8, 1);
        for (int d = 0; d < 12; d++) x.door(0, 1);
        for (int i = 0; i < 8; i++) x.tally(0, 0);
        for (int i = 0; i < 6; i++) Texts.law(x, "bars");
        x.force(5);
        x.key(7, 11, 1);
        x.go(7, 11);
        for (int i = 0; i < 16; i++) x.inspect();
        for (int i = 0; i < 20; i++) x.feed(0, 0, 0, 0, 0);
        int[] most = {12, 8, 7, 8, 6, 16, 400};
        for (int k = 0; k < 7; k++) Edges.due("count(" + k + ")", x.count(k), most[k]);
        Edges.due("count(12)", x.count(12), 5);
        Edges.due("count(13)", x.count(13), 112);
    }

    /** One call of those that status() is of, REFUSED if that is wanted; its answer. */
    private static int call(KeyKeepers x, int which, boolean refused) {
        int bad = refused ? 99 : 0;
        switch (which) {
            case 0: return x.door(bad, 1);
            case 1: return x.wall(bad, 0);
            case 2: return x.prisoner(9, 4, 1 + bad);
            case 3: return x.key(bad, 0, 0);
            case 4: return x.trust(bad, 1, 1);
            case 5: return x.vote(bad, 1);
            case 6: return x.terms(bad, 7);
            case 7: return Texts.row(x, refused ? "" : "\0");
            case 8: return Texts.law(x, refused ? "" : "bars");
            case 9: return Texts.orders(x, refused ? "go 0 by 9" : "inspect if 1=2");
            case 10: return x.force(bad);
            case 11: return x.go(0, bad);
            case 12: return x.give(0, 0, 1 + bad);
            case 13: return x.inspect();
            case 14: return x.pass();
            case 15: return x.undo();
            case 16: return x.tally(0, bad);
            case 17: return x.nights(0, 1 + 2 * bad);
            case 18: return x.image(bad);
            default: return x.back(bad);
        }
    }

    /** A prison in which each of those calls is fine. */
    private static KeyKeepers fineYard() {
        KeyKeepers x = Texts.crowd(2, 1);
        x.door(0, 1);
        x.trust(0, 1, 1);
        x.key(0, 0, 1);
        Texts.law(x, "bars");
        x.image(0);
        x.pass();
        return x;
    }

    @Edge(promise = 43, says = "What the latest call of door, wall, prisoner, key, trust, vote, terms, row, law, orders, force, go, give, inspect, pass, undo, tally, nights, image, back was REFUSED by")
    static void statusOfEachCall() {
        int[] by = {-1, -2, -1, -2, -2, -2, -1, -6, -6, -3, -2, -2, -2, -3, -3, -3, -1, -1, -1, -1};
        for (int which = 0; which < by.length; which++) {
            KeyKeepers x = which == 13 ? new KeyKeepers() : fineYard();
            if (which == 14) x.terms(0, 9999);
            if (which == 15) x.undo();
            Edges.refused(x, "call " + which + " REFUSED", call(x, which, true), by[which]);
            KeyKeepers y = fineYard();
            y.door(1, 1);
            Edges.due("status() ahead of call " + which, y.status(), -1);
            Edges.due("call " + which + " is fine", call(y, which, false) < (which == 10 ? -1 : 0) ? 1 : 0, 0);
            Edges.due("status() behind call " + which, y.status(), 0);
        }
    }

    @Edge(promise = 43, says = "0 if it was not, or ahead of any.")
    static void statusAheadOfAny() {
        KeyKeepers x = new KeyKeepers();
        Edges.due("status()", x.status(), 0);
        x.of(9, 9);
        x.end(9);
        x.count(99);
        Edges.due("status()", x.status(), 0);
        Edges.due("status() again", x.status(), 0);
    }

    @Edge(promise = 43, says = "What the latest call of door,")
    static void statusIsNotOfOtherCalls() {
        KeyKeepers x = fineYard();
        x.wall(9, 1);
        x.of(0, 0);
        x.feed(0, 0, 0, 0, 0);
        x.end(0);
        x.rats();
        x.fault();
        x.stopped();
        x.asks(0, 0, 0);
        x.opens(0, 0);
        x.way(0);
        x.cut(0, 0);
        x.together();
        x.rota(0);
        x.rests(0);
        x.parted(1, 0);
        x.forget();
        x.out(0);
        x.next(0);
        x.voted(0);
        x.sure(0, 0);
        x.drawn(0, 0);
        x.count(0);
        x.status();
        Edges.due("status()", x.status(), -2);
    }
}
