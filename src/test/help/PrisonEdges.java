/** Terms I, ROWS, promises 1 to 13: what there is in a prison, within which limits, and the TAPE. */
final class PrisonEdges {
    @Edge(promise = 1, says = "A prison without doors.")
    static void nothingAtFirst() {
        KeyKeepers x = new KeyKeepers();
        int[] first = {0, 0, 0, 0, 0, 0, 0, 0, 0, 0, 0, 0, -1, 0, 0, 3, 3, 0};
        for (int k = 0; k < first.length; k++) Edges.due("count(" + k + ")", x.count(k), first[k]);
        Edges.due("together()", x.together(), 0);
        Edges.due("forget()", x.forget(), 0);
    }

    @Edge(promise = 1, says = "A prison without doors.")
    static void eachObjectIsItsOwn() {
        KeyKeepers x = new KeyKeepers();
        x.door(0, 1);
        x.prisoner(9, 4, 1);
        x.terms(1, 6);
        x.feed(1, 2, 3, 4, 5);
        x.image(0);
        KeyKeepers y = new KeyKeepers();
        Edges.due("count(0)", y.count(0), 0);
        Edges.due("count(1)", y.count(1), 0);
        Edges.due("count(6)", y.count(6), 0);
        Edges.due("count(15)", y.count(15), 3);
        Edges.due("back(0)", y.back(0), -2);
    }

    @Edge(promise = 1, says = "An object is used for at most 512 calls after it has been made")
    static void fiveHundredAndTwelveCalls() {
        KeyKeepers x = new KeyKeepers();
        x.door(0, 1);
        x.prisoner(9, 4, 1);
        x.key(0, 0, 1);
        for (int call = 4; call <= 511; call++) Edges.due("go(0, 0), call " + call, x.go(0, 0), call % 2);
        Edges.due("undo(), call 512", x.undo(), 0);
    }

    @Edge(promise = 1, says = "An object is used for at most 512 calls after it has been made")
    static void fiveHundredAndTwelveTexts() {
        KeyKeepers x = new KeyKeepers();
        for (int call = 1; call <= 508; call += 3) {
            x.feed(0x636f7374, 0x73203720, 0x3b206261, 0x72732069, 0x6620313d); // "costs 7 ; bars if 1="
            x.end(7);
            Edges.due("law(), call " + (call + 2), x.law(), call <= 16 ? call / 3 : -5);
        }
        Edges.due("feed(), call 511", x.feed(0, 0, 0, 0, 0), 20);
        Edges.due("count(10), call 512", x.count(10), 164);
    }

    @Edge(promise = 1, says = "`NONE = -1`: There is none.")
    static void noneIsMinusOne() {
        Edges.due("NONE", KeyKeepers.NONE, -1);
    }

    @Edge(promise = 2, says = "PLACES 0 .. 9")
    static void doorsJoinPlaces() {
        KeyKeepers x = new KeyKeepers();
        Edges.fine(x, "door(0, 9)", x.door(0, 9), 0);
        Edges.fine(x, "door(9, 0)", x.door(9, 0), 1);
        Edges.refused(x, "door(-1, 1)", x.door(-1, 1), -1);
        Edges.refused(x, "door(1, -1)", x.door(1, -1), -1);
        Edges.refused(x, "door(10, 1)", x.door(10, 1), -1);
        Edges.refused(x, "door(1, 10)", x.door(1, 10), -1);
        for (int far : Edges.FAR) {
            Edges.refused(x, "door(" + far + ", 1)", x.door(far, 1), -1);
            Edges.refused(x, "door(1, " + far + ")", x.door(1, far), -1);
        }
        Edges.due("count(0)", x.count(0), 2);
    }

    @Edge(promise = 2, says = "each between two unlike PLACES")
    static void doorsJoinUnlikePlaces() {
        KeyKeepers x = new KeyKeepers();
        for (int place = 0; place < 10; place++) {
            Edges.refused(x, "door(" + place + ", the same)", x.door(place, place), -1);
        }
        Edges.due("count(0)", x.count(0), 0);
    }

    @Edge(promise = 2, says = "DOORS 0 .. 11 (12 at most)")
    static void noThirteenthDoor() {
        KeyKeepers x = new KeyKeepers();
        for (int d = 0; d < 12; d++) Edges.fine(x, "door(1, 2)", x.door(1, 2), d);
        Edges.refused(x, "door 13", x.door(1, 2), -5);
        Edges.refused(x, "door 13 again", x.door(3, 4), -5);
        Edges.due("count(0)", x.count(0), 12);
        Edges.fine(x, "wall(11, 1)", x.wall(11, 1), 0);
        Edges.refused(x, "wall(12, 1)", x.wall(12, 1), -2);
    }

    @Edge(promise = 2, says = "The first of these in that order.")
    static void badPlacesAheadOfNoRoom() {
        KeyKeepers x = new KeyKeepers();
        for (int d = 0; d < 12; d++) x.door(1, 2);
        Edges.refused(x, "door(2, 2)", x.door(2, 2), -1);
        Edges.refused(x, "door(0, 10)", x.door(0, 10), -1);
    }

    @Edge(promise = 3, says = "one is WALLED up or not (at first)")
    static void doorsAreNotWalledAtFirst() {
        KeyKeepers x = new KeyKeepers();
        x.image(0);
        for (int d = 0; d < 12; d++) {
            x.door(1, 2);
            Edges.fine(x, "wall(" + d + ", 1)", x.wall(d, 1), 0);
        }
        x.back(0);
        for (int d = 0; d < 12; d++) {
            x.door(1, 2);
            Edges.fine(x, "wall(" + d + ", 0) of a new door", x.wall(d, 0), 0);
        }
    }

    @Edge(promise = 3, says = "A DOOR is WALLED up (1) or not (0): what it was.")
    static void wallsTellWhatWas() {
        KeyKeepers x = Texts.corridor(2);
        int[] is = {0, 1, 1, 0, 0, 1};
        int[] was = {0, 0, 1, 1, 0, 0};
        for (int i = 0; i < is.length; i++) Edges.fine(x, "wall(0, " + is[i] + ")", x.wall(0, is[i]), was[i]);
        Edges.fine(x, "wall(1, 0)", x.wall(1, 0), 0);
    }

    @Edge(promise = 3, says = "A DOOR is WALLED up (1) or not (0): what it was. -1; -2.")
    static void wallsAreOneOrNought() {
        KeyKeepers x = Texts.corridor(2);
        x.wall(0, 1);
        Edges.refused(x, "wall(0, 2)", x.wall(0, 2), -1);
        Edges.refused(x, "wall(0, -1)", x.wall(0, -1), -1);
        for (int far : Edges.FAR) Edges.refused(x, "wall(0, " + far + ")", x.wall(0, far), -1);
        Edges.due("wall(0, 1) is as it was", x.wall(0, 1), 1);
        Edges.due("wall(1, 1) is as it was", x.wall(1, 1), 0);
    }

    @Edge(promise = 3, says = "there is no such PRISONER, DOOR, LAW, IMAGE")
    static void noSuchDoorToWall() {
        KeyKeepers x = new KeyKeepers();
        Edges.refused(x, "wall(0, 1) without doors", x.wall(0, 1), -2);
        x.door(0, 1);
        Edges.refused(x, "wall(1, 1)", x.wall(1, 1), -2);
        Edges.refused(x, "wall(-1, 0)", x.wall(-1, 0), -2);
        for (int far : Edges.FAR) Edges.refused(x, "wall(" + far + ", 1)", x.wall(far, 1), -2);
        Edges.due("wall(0, 0) is as it was", x.wall(0, 0), 0);
    }

    @Edge(promise = 3, says = "The first of these in that order.")
    static void badNumberAheadOfNoSuchDoor() {
        KeyKeepers x = Texts.corridor(1);
        Edges.refused(x, "wall(1, 2)", x.wall(1, 2), -1);
        Edges.refused(x, "wall(-1, -1)", x.wall(-1, -1), -1);
    }

    @Edge(promise = 4, says = "PRISONERS 0 .. 7 (8 at most)")
    static void noNinthPrisoner() {
        KeyKeepers x = new KeyKeepers();
        for (int p = 0; p < 8; p++) Edges.fine(x, "prisoner(9, 4, 1)", x.prisoner(9, 4, 1), p);
        Edges.refused(x, "prisoner 9", x.prisoner(9, 4, 1), -5);
        Edges.due("count(1)", x.count(1), 8);
        Edges.due("of(8, 0)", x.of(8, 0), -1);
    }

    @Edge(promise = 4, says = "YEARS 1 .. 99")
    static void yearsHaveLimits() {
        KeyKeepers x = new KeyKeepers();
        Edges.fine(x, "prisoner(1, 4, 1)", x.prisoner(1, 4, 1), 0);
        Edges.fine(x, "prisoner(99, 4, 1)", x.prisoner(99, 4, 1), 1);
        Edges.refused(x, "prisoner(0, 4, 1)", x.prisoner(0, 4, 1), -1);
        Edges.refused(x, "prisoner(100, 4, 1)", x.prisoner(100, 4, 1), -1);
        for (int far : Edges.FAR) Edges.refused(x, "prisoner(" + far + ", 4, 1)", x.prisoner(far, 4, 1), -1);
        Edges.due("of(0, 0)", x.of(0, 0), 1);
        Edges.due("of(1, 0)", x.of(1, 0), 99);
        Edges.due("count(1)", x.count(1), 2);
    }

    @Edge(promise = 4, says = "WANT 0 .. 9")
    static void wantsHaveLimits() {
        KeyKeepers x = new KeyKeepers();
        Edges.fine(x, "prisoner(9, 0, 1)", x.prisoner(9, 0, 1), 0);
        Edges.fine(x, "prisoner(9, 9, 1)", x.prisoner(9, 9, 1), 1);
        Edges.refused(x, "prisoner(9, -1, 1)", x.prisoner(9, -1, 1), -1);
        Edges.refused(x, "prisoner(9, 10, 1)", x.prisoner(9, 10, 1), -1);
        for (int far : Edges.FAR) Edges.refused(x, "prisoner(9, " + far + ", 1)", x.prisoner(9, far, 1), -1);
        Edges.due("of(0, 1)", x.of(0, 1), 0);
        Edges.due("of(1, 1)", x.of(1, 1), 9);
        Edges.due("count(1)", x.count(1), 2);
    }

    @Edge(promise = 4, says = "a PLACE (a cell, not OUTSIDE, at first)")
    static void prisonersAreInCellsAtFirst() {
        KeyKeepers x = new KeyKeepers();
        Edges.refused(x, "prisoner(9, 4, 0)", x.prisoner(9, 4, 0), -1);
        Edges.fine(x, "prisoner(9, 4, 1)", x.prisoner(9, 4, 1), 0);
        Edges.fine(x, "prisoner(9, 4, 9)", x.prisoner(9, 4, 9), 1);
        Edges.refused(x, "prisoner(9, 4, 10)", x.prisoner(9, 4, 10), -1);
        Edges.refused(x, "prisoner(9, 4, -1)", x.prisoner(9, 4, -1), -1);
        for (int far : Edges.FAR) Edges.refused(x, "prisoner(9, 4, " + far + ")", x.prisoner(9, 4, far), -1);
        Edges.due("of(0, 2)", x.of(0, 2), 1);
        Edges.due("of(1, 2)", x.of(1, 2), 9);
    }

    @Edge(promise = 4, says = "KEYS (none at first); whom one TRUSTS (nobody at first)")
    static void newPrisonersHaveNothing() {
        KeyKeepers x = new KeyKeepers();
        x.image(0);
        for (int turn = 0; turn < 2; turn++) {
            x.door(0, 1);
            x.prisoner(9, 4, 1);
            x.prisoner(9, 4, 1);
            for (int k = 3; k < 6; k++) Edges.due("of(0, " + k + "), turn " + turn, x.of(0, k), 0);
            x.key(0, 0, 1);
            x.trust(0, 1, 1);
            x.vote(0, 1);
            x.back(0);
        }
    }

    @Edge(promise = 4, says = "The first of these in that order.")
    static void badPrisonerAheadOfNoRoom() {
        KeyKeepers x = Texts.crowd(8, 1);
        Edges.refused(x, "prisoner(0, 4, 1)", x.prisoner(0, 4, 1), -1);
        Edges.refused(x, "prisoner(9, 10, 1)", x.prisoner(9, 10, 1), -1);
        Edges.refused(x, "prisoner(9, 4, 0)", x.prisoner(9, 4, 0), -1);
    }

    @Edge(promise = 5, says = "the VOTE (5). NONE.")
    static void nothingElseOfPrisoners() {
        KeyKeepers x = new KeyKeepers();
        Edges.due("of(0, 0) of nobody", x.of(0, 0), -1);
        x.prisoner(9, 4, 1);
        int[] is = {9, 4, 1, 0, 0, 0};
        for (int k = 0; k < 6; k++) Edges.due("of(0, " + k + ")", x.of(0, k), is[k]);
        Edges.due("of(0, -1)", x.of(0, -1), -1);
        Edges.due("of(0, 6)", x.of(0, 6), -1);
        Edges.due("of(1, 0)", x.of(1, 0), -1);
        Edges.due("of(-1, 0)", x.of(-1, 0), -1);
        for (int far : Edges.FAR) {
            Edges.due("of(0, " + far + ")", x.of(0, far), -1);
            Edges.due("of(" + far + ", 0)", x.of(far, 0), -1);
        }
    }

    @Edge(promise = 5, says = "KEYS, as bits (3), whom one TRUSTS, as bits (4)")
    static void allKeysAndAllTrust() {
        KeyKeepers x = Texts.crowd(8, 1);
        for (int d = 0; d < 12; d++) {
            x.door(1, 2);
            x.key(7, d, 1);
            Edges.due("of(7, 3)", x.of(7, 3), (2 << d) - 1);
        }
        for (int p = 0; p < 7; p++) x.trust(7, p, 1);
        Edges.due("of(7, 4)", x.of(7, 4), 127);
        for (int p = 1; p < 8; p++) x.trust(0, p, 1);
        Edges.due("of(0, 4)", x.of(0, 4), 254);
        Edges.due("of(0, 3)", x.of(0, 3), 0);
    }

    @Edge(promise = 6, says = "One has a KEY (1) or not (0): what was.")
    static void keysTellWhatWas() {
        KeyKeepers x = Texts.crowd(2, 1);
        x.door(0, 1);
        int[] is = {0, 1, 1, 0, 0};
        int[] was = {0, 0, 1, 1, 0};
        for (int i = 0; i < is.length; i++) Edges.fine(x, "key(0, 0, " + is[i] + ")", x.key(0, 0, is[i]), was[i]);
        Edges.due("of(1, 3)", x.of(1, 3), 0);
    }

    @Edge(promise = 6, says = "One has a KEY (1) or not (0): what was. -1; -2.")
    static void keysAreOneOrNought() {
        KeyKeepers x = Texts.crowd(1, 1);
        x.door(0, 1);
        x.key(0, 0, 1);
        Edges.refused(x, "key(0, 0, 2)", x.key(0, 0, 2), -1);
        Edges.refused(x, "key(0, 0, -1)", x.key(0, 0, -1), -1);
        for (int far : Edges.FAR) Edges.refused(x, "key(0, 0, " + far + ")", x.key(0, 0, far), -1);
        Edges.due("of(0, 3)", x.of(0, 3), 1);
    }

    @Edge(promise = 6, says = "there is no such PRISONER, DOOR, LAW, IMAGE")
    static void noSuchKeysOrKeepers() {
        KeyKeepers x = Texts.crowd(1, 1);
        Edges.refused(x, "key(0, 0, 1) without doors", x.key(0, 0, 1), -2);
        x.door(0, 1);
        Edges.refused(x, "key(1, 0, 1)", x.key(1, 0, 1), -2);
        Edges.refused(x, "key(-1, 0, 1)", x.key(-1, 0, 1), -2);
        Edges.refused(x, "key(0, 1, 1)", x.key(0, 1, 1), -2);
        Edges.refused(x, "key(0, -1, 1)", x.key(0, -1, 1), -2);
        for (int far : Edges.FAR) {
            Edges.refused(x, "key(" + far + ", 0, 1)", x.key(far, 0, 1), -2);
            Edges.refused(x, "key(0, " + far + ", 1)", x.key(0, far, 1), -2);
        }
        Edges.due("of(0, 3)", x.of(0, 3), 0);
    }

    @Edge(promise = 6, says = "The first of these in that order.")
    static void badNumberAheadOfNoSuchKey() {
        KeyKeepers x = Texts.crowd(1, 1);
        Edges.refused(x, "key(0, 0, 2) without doors", x.key(0, 0, 2), -1);
        Edges.refused(x, "key(1, 0, 2)", x.key(1, 0, 2), -1);
    }

    @Edge(promise = 7, says = "One TRUSTS another one (1) or not (0): what was.")
    static void trustTellsWhatWas() {
        KeyKeepers x = Texts.crowd(2, 1);
        int[] is = {0, 1, 1, 0, 0};
        int[] was = {0, 0, 1, 1, 0};
        for (int i = 0; i < is.length; i++) Edges.fine(x, "trust(0, 1, " + is[i] + ")", x.trust(0, 1, is[i]), was[i]);
        x.trust(0, 1, 1);
        Edges.fine(x, "trust(1, 0, 0), the other way", x.trust(1, 0, 0), 0);
    }

    @Edge(promise = 7, says = "-1 (oneself, too)")
    static void nobodyTrustsOneself() {
        KeyKeepers x = Texts.crowd(8, 1);
        for (int p = 0; p < 8; p++) {
            Edges.refused(x, "trust of oneself", x.trust(p, p, 1), -1);
            Edges.refused(x, "trust of oneself, no more", x.trust(p, p, 0), -1);
            Edges.due("of(" + p + ", 4)", x.of(p, 4), 0);
        }
        Edges.refused(x, "trust(8, 8, 1)", x.trust(8, 8, 1), -1);
        Edges.refused(x, "trust(-1, -1, 1)", x.trust(-1, -1, 1), -1);
    }

    @Edge(promise = 7, says = "-1 (oneself, too); -2.")
    static void trustIsOneOrNought() {
        KeyKeepers x = Texts.crowd(2, 1);
        x.trust(0, 1, 1);
        Edges.refused(x, "trust(0, 1, 2)", x.trust(0, 1, 2), -1);
        Edges.refused(x, "trust(0, 1, -1)", x.trust(0, 1, -1), -1);
        for (int far : Edges.FAR) Edges.refused(x, "trust(0, 1, " + far + ")", x.trust(0, 1, far), -1);
        Edges.due("of(0, 4)", x.of(0, 4), 2);
    }

    @Edge(promise = 7, says = "there is no such PRISONER, DOOR, LAW, IMAGE")
    static void nobodyElseToTrust() {
        KeyKeepers x = Texts.crowd(2, 1);
        Edges.refused(x, "trust(0, 2, 1)", x.trust(0, 2, 1), -2);
        Edges.refused(x, "trust(2, 0, 1)", x.trust(2, 0, 1), -2);
        Edges.refused(x, "trust(0, -1, 1)", x.trust(0, -1, 1), -2);
        Edges.refused(x, "trust(-1, 0, 1)", x.trust(-1, 0, 1), -2);
        for (int far : Edges.FAR) {
            Edges.refused(x, "trust(0, " + far + ", 1)", x.trust(0, far, 1), -2);
            Edges.refused(x, "trust(" + far + ", 0, 1)", x.trust(far, 0, 1), -2);
        }
        Edges.due("of(0, 4)", x.of(0, 4), 0);
    }

    @Edge(promise = 7, says = "The first of these in that order.")
    static void badNumberAheadOfNobodyToTrust() {
        KeyKeepers x = Texts.crowd(2, 1);
        Edges.refused(x, "trust(0, 2, 2)", x.trust(0, 2, 2), -1);
        Edges.refused(x, "trust(2, 2, 1)", x.trust(2, 2, 1), -1);
    }

    @Edge(promise = 8, says = "VOTES of PRISONERS 0, 1 (0 at first)")
    static void votesAreNoughtAtFirst() {
        KeyKeepers x = Texts.crowd(8, 1);
        for (int p = 0; p < 8; p++) {
            Edges.due("of(" + p + ", 5)", x.of(p, 5), 0);
            Edges.fine(x, "vote(" + p + ", 1)", x.vote(p, 1), 0);
            Edges.fine(x, "vote(" + p + ", 1)", x.vote(p, 1), 1);
            Edges.due("of(" + p + ", 5)", x.of(p, 5), 1);
            Edges.fine(x, "vote(" + p + ", 0)", x.vote(p, 0), 1);
        }
    }

    @Edge(promise = 8, says = "VOTES of PRISONERS 0, 1 (0 at first)")
    static void votesAreOneOrNought() {
        KeyKeepers x = Texts.crowd(1, 1);
        x.vote(0, 1);
        Edges.refused(x, "vote(0, 2)", x.vote(0, 2), -1);
        Edges.refused(x, "vote(0, -1)", x.vote(0, -1), -1);
        for (int far : Edges.FAR) Edges.refused(x, "vote(0, " + far + ")", x.vote(0, far), -1);
        Edges.due("of(0, 5)", x.of(0, 5), 1);
    }

    @Edge(promise = 8, says = "A VOTE: what it was. -1; -2.")
    static void nobodyElseVotes() {
        KeyKeepers x = new KeyKeepers();
        Edges.refused(x, "vote(0, 1) of nobody", x.vote(0, 1), -2);
        x.prisoner(9, 4, 1);
        Edges.refused(x, "vote(1, 1)", x.vote(1, 1), -2);
        Edges.refused(x, "vote(-1, 1)", x.vote(-1, 1), -2);
        for (int far : Edges.FAR) Edges.refused(x, "vote(" + far + ", 1)", x.vote(far, 1), -2);
        Edges.refused(x, "vote(1, 2): the first in that order", x.vote(1, 2), -1);
        x.prisoner(9, 4, 1);
        Edges.due("of(1, 5)", x.of(1, 5), 0);
    }

    private static void termWithin(int what, int least, int most, int first) {
        KeyKeepers x = new KeyKeepers();
        String call = "terms(" + what + ", ";
        Edges.due("count at first", x.count(14 + what), first);
        Edges.refused(x, call + (least - 1) + ")", x.terms(what, least - 1), -1);
        Edges.refused(x, call + (most + 1) + ")", x.terms(what, most + 1), -1);
        for (int far : Edges.FAR) {
            if (far < least || far > most) Edges.refused(x, call + far + ")", x.terms(what, far), -1);
        }
        Edges.due("count behind refusals", x.count(14 + what), first);
        Edges.fine(x, call + most + ")", x.terms(what, most), first);
        Edges.due("count of the most", x.count(14 + what), most);
        Edges.fine(x, call + least + ")", x.terms(what, least), most);
        Edges.due("count of the least", x.count(14 + what), least);
    }

    @Edge(promise = 9, says = "0 HOUR 0 .. 9,999 (0 at first)")
    static void hourHasLimits() {
        termWithin(0, 0, 9999, 0);
    }

    @Edge(promise = 9, says = "1 MOST 1 .. 6 (3)")
    static void mostHasLimits() {
        termWithin(1, 1, 6, 3);
    }

    @Edge(promise = 9, says = "2 ODDS 0 .. 10 (3)")
    static void oddsHaveLimits() {
        termWithin(2, 0, 10, 3);
    }

    @Edge(promise = 9, says = "3 MOOD 0 .. 9 (0)")
    static void moodHasLimits() {
        termWithin(3, 0, 9, 0);
    }

    @Edge(promise = 9, says = "A TERM: what it was. -1.")
    static void noOtherTerms() {
        KeyKeepers x = new KeyKeepers();
        Edges.refused(x, "terms(-1, 1)", x.terms(-1, 1), -1);
        Edges.refused(x, "terms(4, 1)", x.terms(4, 1), -1);
        for (int far : Edges.FAR) Edges.refused(x, "terms(" + far + ", 1)", x.terms(far, 1), -1);
        int[] first = {0, 3, 3, 0};
        for (int k = 0; k < 4; k++) Edges.due("count(" + (14 + k) + ")", x.count(14 + k), first[k]);
    }

    @Edge(promise = 10, says = "NONE, if there would be more than 400.")
    static void tapeIsFull() {
        KeyKeepers x = new KeyKeepers();
        for (int i = 1; i <= 20; i++) Edges.due("feed " + i, x.feed(1, 2, 3, 4, 5), 20 * i);
        Edges.due("feed 21", x.feed(1, 2, 3, 4, 5), -1);
        Edges.due("feed 22", x.feed(0, 0, 0, 0, 0), -1);
        Edges.due("count(6)", x.count(6), 400);
        x.end(381);
        Edges.due("feed to 401", x.feed(1, 2, 3, 4, 5), -1);
        Edges.due("count(6)", x.count(6), 381);
        x.end(380);
        Edges.due("feed to 400", x.feed(1, 2, 3, 4, 5), 400);
    }

    @Edge(promise = 10, says = "four of each number, the highest first")
    static void highestByteFirst() {
        KeyKeepers x = new KeyKeepers();
        x.feed(0x63090263, 0x08036307, 0x04630605, 0x63050663, 0x04070000); // 99 9 2, 99 8 3, ..
        x.end(18);
        Edges.due("row()", x.row(), 6);
        for (int p = 0; p < 6; p++) {
            Edges.due("YEARS of " + p, x.of(p, 0), 99);
            Edges.due("WANT of " + p, x.of(p, 1), 9 - p);
            Edges.due("PLACE of " + p, x.of(p, 2), 2 + p);
        }
    }

    @Edge(promise = 10, says = "Twenty bytes come behind the TAPE")
    static void bytesOfNumbersBelowNought() {
        KeyKeepers x = new KeyKeepers();
        x.feed(-1, Integer.MIN_VALUE, Integer.MAX_VALUE, 0x01FF01FF, 0x0101FFFF);
        x.end(17);
        Edges.due("row() of bytes 128 .. 255", x.row(), 0);
        Edges.due("rats()", x.rats(), 6);
        x.feed(0x62617273, 0xE9000000, 0, 0, 0);
        x.end(5);
        Edges.refused(x, "law() of 'bars' and byte 233", x.law(), -6);
        Edges.due("fault()", x.fault(), 4);
    }

    @Edge(promise = 11, says = "NONE, if it has not so many, or n is below 0.")
    static void endOfTheTape() {
        KeyKeepers x = new KeyKeepers();
        Edges.due("end(0) of an empty tape", x.end(0), 0);
        Edges.due("end(1) of an empty tape", x.end(1), -1);
        x.feed(1, 2, 3, 4, 5);
        Edges.due("end(20)", x.end(20), 20);
        Edges.due("end(21)", x.end(21), -1);
        Edges.due("end(-1)", x.end(-1), -1);
        for (int far : Edges.FAR) Edges.due("end(" + far + ")", x.end(far), -1);
        Edges.due("count(6)", x.count(6), 20);
        Edges.due("end(19)", x.end(19), 19);
        Edges.due("end(20) behind end(19)", x.end(20), -1);
        Edges.due("end(0)", x.end(0), 0);
        Edges.due("count(6)", x.count(6), 0);
    }

    @Edge(promise = 11, says = "The TAPE has its first n bytes alone: n.")
    static void endOfAFullTape() {
        KeyKeepers x = new KeyKeepers();
        for (int i = 1; i <= 20; i++) x.feed(1, 2, 3, 4, 5);
        Edges.due("end(401)", x.end(401), -1);
        Edges.due("end(400)", x.end(400), 400);
        Edges.due("end(399)", x.end(399), 399);
        Edges.due("end(400) behind end(399)", x.end(400), -1);
    }

    @Edge(promise = 12, says = "-6 the TAPE is empty.")
    static void rowOfNothing() {
        KeyKeepers x = new KeyKeepers();
        Edges.refused(x, "row()", x.row(), -6);
        Edges.due("rats()", x.rats(), 0);
        Edges.fine(x, "row() of one", Texts.row(x, "\1\1\1"), 1);
        Edges.refused(x, "row() behind a row()", x.row(), -6);
        x.feed(0x01010101, 0, 0, 0, 0);
        x.end(0);
        Edges.refused(x, "row() behind end(0)", x.row(), -6);
        Edges.due("count(1)", x.count(1), 1);
        Edges.due("count(11)", x.count(11), 3);
    }

    @Edge(promise = 12, says = "A ROW, the TAPE is empty then: how many PRISONERS came.")
    static void tapeIsEmptyBehindRow() {
        KeyKeepers x = new KeyKeepers();
        Edges.fine(x, "row() of three", Texts.row(x, "\1\1\1\2\2\2\3\3\3"), 3);
        Edges.due("count(6)", x.count(6), 0);
        Edges.fine(x, "row() of a rat", Texts.row(x, "\1\1"), 0);
        Edges.due("count(6)", x.count(6), 0);
        Edges.due("feed()", x.feed(0, 0, 0, 0, 0), 20);
    }

    @Edge(promise = 12, says = "one that can't be")
    static void ratsThatCannotBe() {
        String[] rats = {"\0\4\1", "\144\4\1", "\377\4\1", "\11\12\1", "\11\377\1", "\11\4\0", "\11\4\12", "\11\4\377"};
        for (String rat : rats) {
            KeyKeepers x = new KeyKeepers();
            Edges.fine(x, "row() of a rat between two", Texts.row(x, "\1\0\1" + rat + "\143\11\11"), 2);
            Edges.due("rats()", x.rats(), 1);
            Edges.due("YEARS of the first", x.of(0, 0), 1);
            Edges.due("YEARS of the other", x.of(1, 0), 99);
            Edges.due("count(1)", x.count(1), 2);
        }
    }

    @Edge(promise = 12, says = "one within which the TAPE ends")
    static void ratsAtTheEnd() {
        KeyKeepers x = new KeyKeepers();
        Edges.fine(x, "row() of one byte", Texts.row(x, "\1"), 0);
        Edges.due("rats()", x.rats(), 1);
        Edges.fine(x, "row() of two bytes", Texts.row(x, "\1\1"), 0);
        Edges.due("rats()", x.rats(), 1);
        Edges.fine(x, "row() of three bytes", Texts.row(x, "\1\1\1"), 1);
        Edges.due("rats()", x.rats(), 0);
        Edges.fine(x, "row() of four bytes", Texts.row(x, "\1\1\1\1"), 1);
        Edges.due("rats()", x.rats(), 1);
        Edges.fine(x, "row() of five bytes", Texts.row(x, "\1\1\1\1\1"), 1);
        Edges.due("rats()", x.rats(), 1);
        Edges.due("count(1)", x.count(1), 3);
    }

    @Edge(promise = 12, says = "one within which the TAPE ends")
    static void bytesBehindTheEndAreNoRow() {
        for (int size = 1; size < 10; size++) {
            KeyKeepers x = new KeyKeepers();
            x.feed(0x01010101, 0x01010101, 0x01010101, 0x01010101, 0x01010101);
            x.end(size);
            Edges.fine(x, "row() of " + size + " bytes", x.row(), size / 3);
            Edges.due("rats()", x.rats(), size % 3 == 0 ? 0 : 1);
        }
    }

    @Edge(promise = 12, says = "one for which there is no room")
    static void ratsWithoutRoom() {
        KeyKeepers x = Texts.crowd(6, 1);
        Edges.fine(x, "row() of three, room for two", Texts.row(x, "\1\1\1\2\2\2\3\3\3"), 2);
        Edges.due("rats()", x.rats(), 1);
        Edges.due("of(7, 0)", x.of(7, 0), 2);
        Edges.fine(x, "row() without room", Texts.row(x, "\1\1\1"), 0);
        Edges.due("rats()", x.rats(), 1);
        Edges.due("count(1)", x.count(1), 8);
        Edges.due("count(10)", x.count(10), 0);
    }

    @Edge(promise = 12, says = "the TAPE's bytes by threes")
    static void rowOfAFullTape() {
        KeyKeepers x = new KeyKeepers();
        Edges.fine(x, "row() of 400 bytes", Texts.row(x, Texts.many("\5\6\7", 133) + "\5"), 8);
        Edges.due("rats()", x.rats(), 126);
        Edges.due("of(7, 2)", x.of(7, 2), 7);
    }

    @Edge(promise = 13, says = "(0 ahead of any)")
    static void noRatsAtFirst() {
        KeyKeepers x = new KeyKeepers();
        Edges.due("rats()", x.rats(), 0);
        x.row();
        x.prisoner(0, 0, 0);
        Edges.due("rats()", x.rats(), 0);
    }

    @Edge(promise = 13, says = "the latest row() had that was not REFUSED")
    static void ratsOfTheLatestRow() {
        KeyKeepers x = new KeyKeepers();
        Texts.row(x, "\0\0\0\0\0\0\0");
        Edges.due("rats()", x.rats(), 3);
        Edges.refused(x, "row()", x.row(), -6);
        Edges.due("rats() behind a row() that was REFUSED", x.rats(), 3);
        Texts.row(x, "\1\1\1\0");
        Edges.due("rats() of a later row()", x.rats(), 1);
        Texts.row(x, "\1\1\1");
        Edges.due("rats() of a row() without", x.rats(), 0);
    }
}
