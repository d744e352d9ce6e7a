/** Terms III as far as who goes where, promises 20 to 28: goings, what is undone, ways out. */
final class GoingEdges {
    @Edge(promise = 20, says = "To GO by a DOOR: the PLACE then. -2; -3.")
    static void nobodyGoesByNoDoor() {
        KeyKeepers x = new KeyKeepers();
        Edges.refused(x, "go(0, 0) of nobody", x.go(0, 0), -2);
        x = Texts.yard();
        Edges.refused(x, "go(3, 0)", x.go(3, 0), -2);
        Edges.refused(x, "go(-1, 0)", x.go(-1, 0), -2);
        Edges.refused(x, "go(0, 2)", x.go(0, 2), -2);
        Edges.refused(x, "go(0, -1)", x.go(0, -1), -2);
        for (int far : Edges.FAR) {
            Edges.refused(x, "go(" + far + ", 0)", x.go(far, 0), -2);
            Edges.refused(x, "go(0, " + far + ")", x.go(0, far), -2);
        }
        Edges.refused(x, "go(2, 2): -2 ahead of -3", x.go(2, 2), -2);
        Edges.due("count(5)", x.count(5), 0);
        Edges.due("of(0, 2)", x.of(0, 2), 1);
    }

    @Edge(promise = 20, says = "To GO by a DOOR one OPENS: from one of its PLACES to the other.")
    static void bothWaysByADoor() {
        KeyKeepers x = Texts.yard();
        Edges.fine(x, "go(0, 1)", x.go(0, 1), 2);
        Edges.due("of(0, 2)", x.of(0, 2), 2);
        Edges.fine(x, "go(0, 1) back", x.go(0, 1), 1);
        Edges.fine(x, "go(0, 0): OUTSIDE is no refusal", x.go(0, 0), 0);
        Edges.due("of(0, 2)", x.of(0, 2), 0);
        Edges.refused(x, "go(0, 1) from OUTSIDE", x.go(0, 1), -3);
        Edges.fine(x, "go(0, 0) in again", x.go(0, 0), 1);
        Edges.due("of(1, 2) of another", x.of(1, 2), 1);
    }

    @Edge(promise = 20, says = "To GO by a DOOR one OPENS: from one of its PLACES to the other.")
    static void notByADoorElsewhere() {
        KeyKeepers x = Texts.yard();
        x.key(2, 0, 1);
        Edges.refused(x, "go(2, 0) from PLACE 2", x.go(2, 0), -3);
        Edges.refused(x, "go(2, 1) without a KEY", x.go(2, 1), -3);
        x.wall(1, 1);
        Edges.refused(x, "go(0, 1) WALLED up", x.go(0, 1), -3);
        x.wall(1, 0);
        x.key(0, 1, 0);
        Edges.refused(x, "go(0, 1) without its KEY", x.go(0, 1), -3);
        Edges.due("of(0, 2)", x.of(0, 2), 1);
        Edges.due("count(5)", x.count(5), 0);
        Edges.due("count(9)", x.count(9), 4);
    }

    @Edge(promise = 20, says = "or one in the same PLACE has it who TRUSTS that one")
    static void byTheKeyOfOneWhoTrusts() {
        KeyKeepers x = Texts.yard();
        Edges.fine(x, "go(1, 1) by the KEY of 0", x.go(1, 1), 2);
        Edges.refused(x, "go(1, 1): 0 is elsewhere", x.go(1, 1), -3);
        Edges.fine(x, "go(0, 1)", x.go(0, 1), 2);
        Edges.refused(x, "go(2, 1): 0 does not TRUST 2", x.go(2, 1), -3);
        x.trust(2, 0, 1);
        Edges.refused(x, "go(2, 1): 2 TRUSTS 0", x.go(2, 1), -3);
        x.trust(1, 2, 1);
        Edges.refused(x, "go(2, 1): 1 who TRUSTS 2 has no KEY", x.go(2, 1), -3);
        x.trust(0, 2, 1);
        Edges.fine(x, "go(2, 1)", x.go(2, 1), 1);
    }

    @Edge(promise = 20, says = "0 is OUTSIDE")
    static void outsideIsAPlaceToo() {
        KeyKeepers x = Texts.yard();
        x.trust(1, 0, 1);
        Edges.fine(x, "go(1, 0)", x.go(1, 0), 0);
        Edges.refused(x, "go(1, 0) back: nobody is OUTSIDE who has its KEY", x.go(1, 0), -3);
        Edges.fine(x, "go(0, 0)", x.go(0, 0), 0);
        Edges.due("opens(1, 0) by the KEY of one OUTSIDE", x.opens(1, 0), 1);
        Edges.fine(x, "give(0, 0, 1) OUTSIDE", x.give(0, 0, 1), 0);
        Edges.fine(x, "go(0, 0) in by the KEY of 1", x.go(0, 0), 1);
        Edges.due("count(2)", x.count(2), 2);
    }

    @Edge(promise = 21, says = "To GIVE a KEY: 0. -2; -3.")
    static void nobodyGivesNoKey() {
        KeyKeepers x = Texts.yard();
        Edges.refused(x, "give(2, 0, 1)", x.give(2, 0, 1), -2);
        Edges.refused(x, "give(-1, 0, 1)", x.give(-1, 0, 1), -2);
        Edges.refused(x, "give(0, 3, 1)", x.give(0, 3, 1), -2);
        Edges.refused(x, "give(0, -1, 1)", x.give(0, -1, 1), -2);
        Edges.refused(x, "give(0, 0, 3)", x.give(0, 0, 3), -2);
        Edges.refused(x, "give(0, 0, -1)", x.give(0, 0, -1), -2);
        for (int far : Edges.FAR) {
            Edges.refused(x, "give(" + far + ", 0, 1)", x.give(far, 0, 1), -2);
            Edges.refused(x, "give(0, " + far + ", 1)", x.give(0, far, 1), -2);
            Edges.refused(x, "give(0, 0, " + far + ")", x.give(0, 0, far), -2);
        }
        Edges.refused(x, "give(2, 0, 0): -2 ahead of -3", x.give(2, 0, 0), -2);
        Edges.due("of(0, 3)", x.of(0, 3), 3);
        Edges.due("count(5)", x.count(5), 0);
    }

    @Edge(promise = 21, says = "To GIVE a KEY one has to another one in the same PLACE whom one TRUSTS.")
    static void keysThatAreNotGiven() {
        KeyKeepers x = Texts.yard();
        x.trust(0, 2, 1);
        x.trust(1, 0, 1);
        x.trust(2, 0, 1);
        Edges.refused(x, "give(0, 0, 0) to oneself", x.give(0, 0, 0), -3);
        Edges.refused(x, "give(0, 0, 2) elsewhere", x.give(0, 0, 2), -3);
        Edges.refused(x, "give(0, 1, 0) of none", x.give(0, 1, 0), -3);
        x.trust(0, 1, 0);
        Edges.refused(x, "give(0, 0, 1) to one who TRUSTS but is not TRUSTED", x.give(0, 0, 1), -3);
        Edges.due("of(0, 3)", x.of(0, 3), 3);
        Edges.due("of(1, 3)", x.of(1, 3), 0);
        Edges.due("count(5)", x.count(5), 0);
    }

    @Edge(promise = 21, says = "To GIVE a KEY: 0.")
    static void keysThatAreGiven() {
        KeyKeepers x = Texts.yard();
        Edges.fine(x, "give(1, 0, 1)", x.give(1, 0, 1), 0);
        Edges.due("of(0, 3)", x.of(0, 3), 1);
        Edges.due("of(1, 3)", x.of(1, 3), 2);
        x.key(1, 0, 1);
        Edges.fine(x, "give(0, 0, 1) to one who has one", x.give(0, 0, 1), 0);
        Edges.due("of(0, 3)", x.of(0, 3), 0);
        Edges.due("of(1, 3)", x.of(1, 3), 3);
        Edges.due("undo()", x.undo(), 1);
        Edges.due("of(0, 3)", x.of(0, 3), 1);
        Edges.due("of(1, 3)", x.of(1, 3), 3);
        x.wall(0, 1);
        Edges.fine(x, "give(0, 0, 1) of a DOOR that is WALLED up", x.give(0, 0, 1), 0);
    }

    @Edge(promise = 22, says = "-3 there are no PRISONERS.")
    static void nobodyToInspect() {
        KeyKeepers x = Texts.corridor(1);
        Edges.refused(x, "inspect()", x.inspect(), -3);
        Edges.due("count(5)", x.count(5), 0);
        x.prisoner(9, 4, 1);
        Edges.fine(x, "inspect() of one", x.inspect(), 1);
    }

    @Edge(promise = 22, says = "BREAD is more by twice as many as are inside, if all are, else by as many as are")
    static void breadIfAllAreInside() {
        KeyKeepers x = Texts.yard();
        x.key(1, 0, 1);
        x.key(2, 0, 1);
        x.key(2, 1, 1);
        Edges.fine(x, "inspect() of all", x.inspect(), 3);
        Edges.due("count(13)", x.count(13), 6);
        x.go(0, 0);
        Edges.fine(x, "inspect() of two", x.inspect(), 2);
        Edges.due("count(13)", x.count(13), 8);
        x.go(1, 0);
        x.go(2, 1);
        x.go(2, 0);
        Edges.fine(x, "inspect() of none: not REFUSED", x.inspect(), 0);
        Edges.due("count(13)", x.count(13), 8);
        Edges.due("count(2)", x.count(2), 0);
        Edges.due("undo()", x.undo(), 2);
    }

    @Edge(promise = 22, says = "(99,999 at most)")
    static void breadIsStopped() {
        KeyKeepers x = Texts.nearlyAllBread();
        Edges.due("count(13)", x.count(13), 99984);
        Edges.fine(x, "inspect()", x.inspect(), 8);
        Edges.due("count(13)", x.count(13), 99999);
        Edges.fine(x, "inspect()", x.inspect(), 8);
        Edges.due("count(13)", x.count(13), 99999);
        Edges.due("orders()", Texts.orders(x, "inspect times 2; wait if bread=999*100+99"), 3);
        for (int i = 0; i < 4; i++) x.undo();
        Edges.due("count(13)", x.count(13), 99999);
        Edges.due("undo()", x.undo(), 2);
        Edges.due("count(13) as it was", x.count(13), 99984);
    }

    @Edge(promise = 23, says = "An HOUR passes (at 9,999 it can't).")
    static void theLastHour() {
        KeyKeepers x = new KeyKeepers();
        Edges.fine(x, "pass()", x.pass(), 1);
        x.terms(0, 9998);
        Edges.fine(x, "pass()", x.pass(), 9999);
        Edges.refused(x, "pass() at 9,999", x.pass(), -3);
        Edges.due("count(14)", x.count(14), 9999);
        Edges.due("count(5)", x.count(5), 1);
        Edges.due("undo()", x.undo(), 3);
        Edges.due("count(14)", x.count(14), 9998);
    }

    @Edge(promise = 24, says = "-3 there is none")
    static void nothingToUndo() {
        KeyKeepers x = Texts.yard();
        Edges.refused(x, "undo()", x.undo(), -3);
        x.go(2, 0);
        x.pass();
        Edges.fine(x, "undo()", x.undo(), 3);
        Edges.refused(x, "undo()", x.undo(), -3);
        Edges.due("count(14)", x.count(14), 0);
        Edges.due("count(9)", x.count(9), 3);
    }

    @Edge(promise = 24, says = "16 are kept")
    static void sixteenAreKept() {
        KeyKeepers x = Texts.yard();
        for (int i = 1; i <= 16; i++) {
            x.pass();
            Edges.due("count(5)", x.count(5), i);
        }
        x.pass();
        Edges.due("count(5) of 17", x.count(5), 16);
        for (int i = 16; i >= 1; i--) {
            Edges.fine(x, "undo()", x.undo(), 3);
            Edges.due("count(14)", x.count(14), i);
        }
        Edges.refused(x, "undo() 17", x.undo(), -3);
        Edges.due("count(14)", x.count(14), 1);
    }

    @Edge(promise = 24, says = "16 are kept")
    static void theOldestIsDroppedWholly() {
        KeyKeepers x = new KeyKeepers();
        x.door(1, 2);
        x.door(1, 3);
        for (int p = 0; p < 3; p++) {
            x.prisoner(1, 1, 1);
            x.key(p, 1, 1);
        }
        x.key(0, 0, 1);
        for (int p = 0; p < 3; p++) x.trust(p, (p + 1) % 3, 1);
        for (int i = 0; i < 7; i++) {
            Edges.due("give", x.give(0, i % 3, (i + 1) % 3), 0);
            Edges.due("go", x.go((i + 2) % 3, 1), 3);
            Edges.due("go", x.go((i + 2) % 3, 1), 1);
        }
        Edges.due("count(5)", x.count(5), 16);
        for (int turn = 0; turn < 2; turn++) {
            Edges.due("orders() that can't be", Texts.orders(x, "inspect times 20; go 0 by 1; go 1 by 1; go 2 by 1; go 2 by 0"), -3);
            Edges.due("stopped()", x.stopped(), 4);
        }
        for (int i = 6; i >= 2; i--) {
            Edges.due("undo()", x.undo(), 0);
            Edges.due("out", x.of((i + 2) % 3, 2), 3);
            Edges.due("undo()", x.undo(), 0);
            Edges.due("in", x.of((i + 2) % 3, 2), 1);
            Edges.due("undo()", x.undo(), 1);
            Edges.due("key of the giver", x.of(i % 3, 3), 3);
            Edges.due("key of the other", x.of((i + 1) % 3, 3), 2);
        }
        Edges.due("undo()", x.undo(), 0);
        Edges.due("undo()", x.undo(), -3);
    }

    @Edge(promise = 24, says = "The latest go(), give(), inspect(), pass() (by ORDERS, too; 16 are kept) is undone: 0 .. 3")
    static void allKindsAreUndone() {
        KeyKeepers x = Texts.yard();
        x.terms(0, 77);
        for (int turn = 0; turn < 2; turn++) {
            if (turn == 0) {
                x.go(0, 1);
                x.go(0, 1);
                x.give(1, 0, 1);
                x.inspect();
                x.pass();
            } else {
                Texts.orders(x, "go 0 by 1; go 0 by 1; give 1 of 0 to 1; inspect; wait");
            }
            Edges.due("count(5)", x.count(5), 5);
            Edges.due("undo() of pass()", x.undo(), 3);
            Edges.due("count(14)", x.count(14), 77);
            Edges.due("undo() of inspect()", x.undo(), 2);
            Edges.due("count(13)", x.count(13), 0);
            Edges.due("undo() of give()", x.undo(), 1);
            Edges.due("of(0, 3)", x.of(0, 3), 3);
            Edges.due("of(1, 3)", x.of(1, 3), 0);
            Edges.due("undo() of go()", x.undo(), 0);
            Edges.due("of(0, 2)", x.of(0, 2), 2);
            Edges.due("undo() of go()", x.undo(), 0);
            Edges.due("of(0, 2)", x.of(0, 2), 1);
        }
    }

    @Edge(promise = 24, says = "(nothing that was ahead of a prisoner(), key(), terms(), row() that was not REFUSED can be undone)")
    static void whatEndsUndoing() {
        for (int k = 0; k < 7; k++) {
            KeyKeepers x = Texts.yard();
            x.pass();
            switch (k) {
                case 0 -> Edges.fine(x, "prisoner()", x.prisoner(9, 4, 1), 3);
                case 1 -> Edges.fine(x, "key()", x.key(1, 0, 1), 0);
                case 2 -> Edges.fine(x, "key() that changes nothing", x.key(0, 0, 1), 1);
                case 3 -> Edges.fine(x, "terms()", x.terms(3, 9), 0);
                case 4 -> Edges.fine(x, "terms() that change nothing", x.terms(1, 3), 3);
                case 5 -> Edges.fine(x, "row()", Texts.row(x, "\1\1\1"), 1);
                default -> Edges.fine(x, "row() of rats", Texts.row(x, "\0"), 0);
            }
            Edges.due("count(5), " + k, x.count(5), 0);
            Edges.refused(x, "undo(), " + k, x.undo(), -3);
            x.pass();
            Edges.fine(x, "undo() of what came behind, " + k, x.undo(), 3);
            Edges.due("count(14), " + k, x.count(14), 1);
        }
    }

    @Edge(promise = 24, says = "(nothing that was ahead of a prisoner(), key(), terms(), row() that was not REFUSED can be undone)")
    static void whatDoesNotEndUndoing() {
        KeyKeepers x = Texts.yard();
        x.pass();
        Edges.refused(x, "prisoner()", x.prisoner(0, 4, 1), -1);
        Edges.refused(x, "key()", x.key(0, 0, 2), -1);
        Edges.refused(x, "key()", x.key(0, 7, 1), -2);
        Edges.refused(x, "terms()", x.terms(0, 10000), -1);
        Edges.refused(x, "row()", x.row(), -6);
        Edges.refused(x, "back()", x.back(0), -2);
        Edges.fine(x, "undo()", x.undo(), 3);
        for (int p = 3; p < 8; p++) x.prisoner(9, 4, 1);
        x.inspect();
        Edges.refused(x, "prisoner() without room", x.prisoner(9, 4, 1), -5);
        Edges.fine(x, "undo()", x.undo(), 2);
    }

    @Edge(promise = 24, says = "(nothing that was ahead of a prisoner(), key(), terms(), row() that was not REFUSED can be undone)")
    static void othersDoNotEndUndoing() {
        KeyKeepers x = Texts.yard();
        x.pass();
        Edges.fine(x, "door()", x.door(1, 2), 2);
        Edges.fine(x, "wall()", x.wall(2, 1), 0);
        Edges.fine(x, "trust()", x.trust(1, 0, 1), 0);
        Edges.fine(x, "vote()", x.vote(1, 1), 0);
        Edges.fine(x, "law()", Texts.law(x, "bars"), 0);
        Edges.fine(x, "force()", x.force(0), -1);
        Edges.fine(x, "tally()", x.tally(1, 1), 1);
        Edges.due("forget()", x.forget(), 1);
        Edges.fine(x, "image()", x.image(0), 0);
        Edges.fine(x, "nights()", x.nights(1, 1), 1);
        Edges.fine(x, "orders()", Texts.orders(x, "wait if 1=2"), 0);
        Edges.due("count(5)", x.count(5), 1);
        Edges.fine(x, "undo()", x.undo(), 3);
        Edges.due("count(14)", x.count(14), 0);
        Edges.refused(x, "undo()", x.undo(), -3);
    }

    @Edge(promise = 25, says = "Whether one OPENS a DOOR (1, 0). NONE.")
    static void nobodyOpensNoDoor() {
        KeyKeepers x = Texts.yard();
        Edges.due("opens(3, 0)", x.opens(3, 0), -1);
        Edges.due("opens(-1, 0)", x.opens(-1, 0), -1);
        Edges.due("opens(0, 2)", x.opens(0, 2), -1);
        Edges.due("opens(0, -1)", x.opens(0, -1), -1);
        for (int far : Edges.FAR) {
            Edges.due("opens(" + far + ", 0)", x.opens(far, 0), -1);
            Edges.due("opens(0, " + far + ")", x.opens(0, far), -1);
        }
        Edges.due("opens() of nobody", new KeyKeepers().opens(0, 0), -1);
        Edges.due("status() is not opens()'s", x.status(), 0);
    }

    @Edge(promise = 25, says = "One OPENS a DOOR that is not WALLED up, if one has its KEY")
    static void whoOpens() {
        KeyKeepers x = Texts.yard();
        x.door(5, 6);
        x.key(0, 2, 1);
        Edges.due("opens(0, 2) that is far away", x.opens(0, 2), 1);
        Edges.due("opens(1, 2) by the KEY of 0", x.opens(1, 2), 1);
        Edges.due("opens(2, 2)", x.opens(2, 2), 0);
        x.wall(2, 1);
        Edges.due("opens(0, 2) WALLED up", x.opens(0, 2), 0);
        Edges.due("opens(1, 2) WALLED up", x.opens(1, 2), 0);
        x.wall(2, 0);
        x.trust(0, 1, 0);
        x.trust(1, 0, 1);
        Edges.due("opens(1, 2) by one who is TRUSTED", x.opens(1, 2), 0);
        x.trust(0, 2, 1);
        Edges.due("opens(2, 2) by one who is elsewhere", x.opens(2, 2), 0);
        x.go(0, 1);
        Edges.due("opens(2, 2) by one who came", x.opens(2, 2), 1);
    }

    @Edge(promise = 25, says = "opened by a KEY of its number")
    static void eachDoorByItsOwnKey() {
        KeyKeepers x = Texts.crowd(1, 1);
        for (int d = 0; d < 12; d++) x.door(1, 2);
        for (int k = 0; k < 12; k++) {
            x.key(0, k, 1);
            for (int d = 0; d < 12; d++) Edges.due("opens(0, " + d + ") by KEY " + k, x.opens(0, d), d == k ? 1 : 0);
            x.key(0, k, 0);
        }
    }

    @Edge(promise = 26, says = "The WAY: how many DOORS (0: OUTSIDE already). NONE (none).")
    static void noWayAndNoDoors() {
        KeyKeepers x = Texts.yard();
        Edges.due("way(3)", x.way(3), -1);
        Edges.due("way(-1)", x.way(-1), -1);
        for (int far : Edges.FAR) Edges.due("way(" + far + ")", x.way(far), -1);
        Edges.due("way(2)", x.way(2), -1);
        Edges.due("way(0)", x.way(0), 1);
        x.go(0, 0);
        Edges.due("way(0) OUTSIDE", x.way(0), 0);
        x.key(0, 0, 0);
        Edges.due("way(0) OUTSIDE without a KEY", x.way(0), 0);
        Edges.due("way() of nobody", new KeyKeepers().way(0), -1);
    }

    @Edge(promise = 26, says = "The WAY of a PRISONER: the fewest DOORS to go by from the own PLACE to OUTSIDE")
    static void theLongestWay() {
        KeyKeepers x = Texts.corridor(9);
        x.prisoner(9, 4, 9);
        for (int d = 0; d < 9; d++) {
            Edges.due("way(0) without KEY " + d, x.way(0), -1);
            x.key(0, d, 1);
        }
        Edges.due("way(0)", x.way(0), 9);
        x.door(9, 5);
        Edges.due("way(0) beside a DOOR without its KEY", x.way(0), 9);
        x.key(0, 9, 1);
        Edges.due("way(0)", x.way(0), 6);
        x.door(0, 9);
        x.key(0, 10, 1);
        Edges.due("way(0)", x.way(0), 1);
        x.wall(10, 1);
        Edges.due("way(0) beside a WALLED one", x.way(0), 6);
        x.wall(0, 1);
        Edges.due("way(0) without the last DOOR", x.way(0), -1);
    }

    @Edge(promise = 26, says = "by own KEYS and those of all who TRUST that one, wherever they are")
    static void keysOfAllWhoTrust() {
        KeyKeepers x = Texts.corridor(3);
        x.prisoner(9, 4, 3);
        x.prisoner(9, 4, 8);
        x.prisoner(9, 4, 1);
        x.prisoner(9, 4, 3);
        x.key(0, 2, 1);
        x.key(1, 1, 1);
        x.key(2, 0, 1);
        x.trust(0, 1, 1);
        x.trust(0, 2, 1);
        Edges.due("way(0) by those whom 0 TRUSTS", x.way(0), -1);
        x.trust(1, 0, 1);
        Edges.due("way(0) by one of two KEYS", x.way(0), -1);
        x.trust(2, 0, 1);
        Edges.due("way(0) by both", x.way(0), 3);
        x.go(2, 0);
        Edges.due("way(0) by the KEY of one OUTSIDE", x.way(0), 3);
        x.trust(0, 3, 1);
        Edges.due("way(3): TRUST is not handed on", x.way(3), -1);
        x.key(3, 0, 1);
        x.key(3, 1, 1);
        Edges.due("way(3) by own KEYS and that of 0", x.way(3), 3);
    }

    @Edge(promise = 27, says = "To CUT one off: how many DOORS (what 0), which, as bits (1). NONE (OUTSIDE already).")
    static void nobodyToCutOff() {
        KeyKeepers x = Texts.yard();
        Edges.due("cut(0, -1)", x.cut(0, -1), -1);
        Edges.due("cut(0, 2)", x.cut(0, 2), -1);
        Edges.due("cut(3, 0)", x.cut(3, 0), -1);
        Edges.due("cut(-1, 0)", x.cut(-1, 0), -1);
        for (int far : Edges.FAR) {
            Edges.due("cut(0, " + far + ")", x.cut(0, far), -1);
            Edges.due("cut(" + far + ", 0)", x.cut(far, 0), -1);
        }
        x.go(0, 0);
        Edges.due("cut(0, 0) OUTSIDE", x.cut(0, 0), -1);
        Edges.due("cut(0, 1) OUTSIDE", x.cut(0, 1), -1);
        Edges.due("cut() of nobody", new KeyKeepers().cut(0, 0), -1);
    }

    @Edge(promise = 27, says = "the fewest DOORS more that must be WALLED up so that there is no such WAY")
    static void noDoorsOrAll() {
        KeyKeepers x = new KeyKeepers();
        x.prisoner(9, 4, 9);
        Edges.due("cut(0, 0) without DOORS", x.cut(0, 0), 0);
        Edges.due("cut(0, 1) without DOORS", x.cut(0, 1), 0);
        for (int d = 0; d < 12; d++) {
            x.door(d % 2 * 9, 9 - d % 2 * 9);
            x.key(0, d, 1);
            Edges.due("cut(0, 0) of DOORS 0 .. " + d, x.cut(0, 0), d + 1);
            Edges.due("cut(0, 1) of DOORS 0 .. " + d, x.cut(0, 1), (2 << d) - 1);
        }
        x.wall(5, 1);
        Edges.due("cut(0, 0) beside a WALLED one", x.cut(0, 0), 11);
        Edges.due("cut(0, 1) beside a WALLED one", x.cut(0, 1), 4095 - 32);
        x.key(0, 11, 0);
        Edges.due("cut(0, 0) beside one without KEY", x.cut(0, 0), 10);
        for (int d = 0; d < 12; d++) x.wall(d, 1);
        Edges.due("cut(0, 0), all WALLED up", x.cut(0, 0), 0);
    }

    @Edge(promise = 27, says = "the lowest as bits")
    static void theLowestDoorsToCut() {
        KeyKeepers x = Texts.corridor(9);
        x.prisoner(9, 4, 9);
        for (int d = 0; d < 9; d++) x.key(0, d, 1);
        Edges.due("cut(0, 0)", x.cut(0, 0), 1);
        Edges.due("cut(0, 1)", x.cut(0, 1), 1);
        x.door(0, 1);
        x.key(0, 9, 1);
        Edges.due("cut(0, 1): DOOR 1 rather than 0, 9", x.cut(0, 1), 2);
        x.door(9, 1);
        x.key(0, 10, 1);
        Edges.due("cut(0, 0)", x.cut(0, 0), 2);
        Edges.due("cut(0, 1): 0, 9 rather than 1, 10", x.cut(0, 1), 513);
        x.door(0, 1);
        x.key(0, 11, 1);
        Edges.due("cut(0, 1): 1, 10 rather than 0, 9, 11", x.cut(0, 1), 1026);
    }

    @Edge(promise = 27, says = "the fewest DOORS more")
    static void fewerThanAtTheOwnPlace() {
        for (int between = 1; between < 9; between++) {
            KeyKeepers x = new KeyKeepers();
            x.prisoner(9, 4, 9);
            for (int d = 0; d < 2; d++) x.door(9, between);
            x.door(between, 0);
            for (int d = 0; d < 3; d++) x.key(0, d, 1);
            Edges.due("cut(0, 1): DOOR 2 rather than 0, 1", x.cut(0, 1), 4);
            Edges.due("cut(0, 0)", x.cut(0, 0), 1);
        }
    }

    @Edge(promise = 28, says = "TOGETHER: PRISONERS who are inside and have some WAY.")
    static void whoGoTogether() {
        Edges.due("together() of nobody", new KeyKeepers().together(), 0);
        KeyKeepers x = Texts.corridor(1);
        for (int p = 0; p < 8; p++) {
            x.prisoner(9, 4, 1);
            Edges.due("together() without KEYS", x.together(), (1 << p) - 1);
            x.key(p, 0, 1);
        }
        Edges.due("together() of all", x.together(), 255);
        x.go(7, 0);
        x.go(0, 0);
        Edges.due("together(): who is inside", x.together(), 126);
        x.wall(0, 1);
        Edges.due("together() behind a wall", x.together(), 0);
    }
}
