/** Terms II as far as ORDERS show it, promises 15 to 17. */
final class OrderEdges {
    private static void fault(String text, int at) {
        KeyKeepers x = new KeyKeepers();
        Edges.due("orders() of '" + text + "' are read", Texts.orders(x, text) == -6 ? 0 : 1, at == -1 ? 1 : 0);
        Edges.due("fault() of '" + text + "'", x.fault(), at);
    }

    private static void runs(KeyKeepers x, String text, int many) {
        Edges.fine(x, "orders() of '" + text + "'", Texts.orders(x, text), many);
        Edges.due("stopped() of '" + text + "'", x.stopped(), -1);
    }

    private static void cannotBe(KeyKeepers x, String text, int clause) {
        Edges.refused(x, "orders() of '" + text + "'", Texts.orders(x, text), -3);
        Edges.due("stopped() of '" + text + "'", x.stopped(), clause);
    }

    /** What is so, by ORDERS that leave all but the hour as it is. */
    private static void isSo(KeyKeepers x, String test) {
        runs(x, "wait if " + test, 1);
    }

    @Edge(promise = 15, says = "ORDERS, the TAPE is empty then: how many were run.")
    static void tapeIsEmptyBehindOrders() {
        KeyKeepers x = new KeyKeepers();
        runs(x, "wait", 1);
        Edges.due("count(6)", x.count(6), 0);
        cannotBe(x, "inspect", 0);
        Edges.due("count(6) behind -3", x.count(6), 0);
        Edges.refused(x, "orders() of nonsense", Texts.orders(x, "nonsense"), -6);
        Edges.due("count(6) behind -6", x.count(6), 0);
        Edges.due("feed()", x.feed(0, 0, 0, 0, 0), 20);
    }

    @Edge(promise = 15, says = "-6 (as for law()).")
    static void ordersOfBlanks() {
        fault("", 0);
        fault(" ", 1);
        fault(Texts.many(" ", 400), 400);
        KeyKeepers x = new KeyKeepers();
        Edges.refused(x, "orders() of an empty TAPE", x.orders(), -6);
        Edges.refused(x, "orders() of blanks", Texts.orders(x, "  "), -6);
        for (int k = 0; k < 6; k++) Texts.law(x, "bars");
        runs(x, "wait", 1);
    }

    @Edge(promise = 15, says = "how many were run")
    static void noneAndAllAreRun() {
        KeyKeepers x = new KeyKeepers();
        runs(x, "wait if 1=2", 0);
        runs(x, "wait times 20 if 1=2; inspect if 1=2", 0);
        runs(x, Texts.many("wait times 20;", 11) + "wait times 20", 240);
        Edges.due("count(14)", x.count(14), 240);
        runs(x, "wait if hour=240; wait if hour=240; wait if hour=241", 2);
    }

    @Edge(promise = 15, says = "12 at most (FAULT at the 13th's first TOKEN)")
    static void noThirteenthOrder() {
        fault(Texts.many("wait;", 11) + "wait", -1);
        fault(Texts.many("wait;", 12) + "wait", 60);
        fault(Texts.many("wait;", 12) + "  wait", 62);
        fault(Texts.many("wait;", 12), 60);
        fault(Texts.many("wait;", 12) + "nonsense", 60);
        fault(Texts.many("wait;", 11) + "wai", 55);
        KeyKeepers x = new KeyKeepers();
        Texts.orders(x, Texts.many("wait;", 12) + "wait");
        Edges.due("none was run", x.count(14), 0);
        runs(x, Texts.many("wait;", 11) + "wait", 12);
    }

    @Edge(promise = 15, says = "TIMES: a NUMBER 1 .. 20.")
    static void timesHaveLimits() {
        fault("wait times 0", 11);
        fault("wait times 1", -1);
        fault("wait times 20", -1);
        fault("wait times 21", 11);
        fault("wait times 1000", 11);
        fault("wait times 4294967297", 11);
        fault("wait times 18446744073709551617", 11);
        fault("wait times", 10);
        fault("wait times if 1=1", 11);
        fault("wait times hour", 11);
        fault("wait times [2]", 11);
        fault("wait times 2+2", 12);
        fault("wait times 2 2", 13);
        fault("wait times 2 times 2", 13);
        fault("wait if 1=1 times 2", 12);
        KeyKeepers x = new KeyKeepers();
        runs(x, "wait times 20", 20);
        runs(x, "wait times 1", 1);
    }

    @Edge(promise = 15, says = "(once without)")
    static void onceWithoutTimes() {
        KeyKeepers x = new KeyKeepers();
        runs(x, "wait", 1);
        runs(x, "wait times 3; wait; wait times 2; wait if 1=1", 7);
        Edges.due("count(14)", x.count(14), 8);
    }

    @Edge(promise = 16, says = "(P: a NUMBER 0 .. 7, D: 0 .. 11)")
    static void numbersOfPrisonersAndDoors() {
        fault("wait if place 0=1", -1);
        fault("wait if place 7=1", -1);
        fault("wait if place 8=1", 14);
        fault("wait if place 4294967296=1", 14);
        fault("wait if place=1", 13);
        fault("wait if place", 13);
        fault("wait if place hour=1", 14);
        fault("wait if place [1]=1", 14);
        fault("wait if place 1 2=1", 16);
        fault("wait if holds 0 0=1", -1);
        fault("wait if holds 7 11=1", -1);
        fault("wait if holds 8 11=1", 14);
        fault("wait if holds 7 12=1", 16);
        fault("wait if holds 7 4294967296=1", 16);
        fault("wait if holds 7=1", 15);
        fault("wait if holds 7", 15);
        fault("wait if holds=1", 13);
        fault("wait if holds 1 2 3=1", 18);
    }

    @Edge(promise = 16, says = "FAULT: the first TOKEN that can't go on there (the end's: the TEXT's length).")
    static void faultsOfOrders() {
        fault("go", 2);
        fault("go 1", 4);
        fault("go 1 by", 7);
        fault("go 1 by 1", -1);
        fault("go by 1", 3);
        fault("go 1 1", 5);
        fault("go 1 to 1", 5);
        fault("go 1 by 1 by 1", 10);
        fault("give 1", 6);
        fault("give 1 of", 9);
        fault("give 1 of 1", 11);
        fault("give 1 of 1 to", 14);
        fault("give 1 of 1 to 1", -1);
        fault("give 1 to 1 of 1", 7);
        fault("give 1 by 1", 7);
        fault("inspect 1", 8);
        fault("wait 1", 5);
        fault("wait wait", 5);
        fault("wait;", 5);
        fault(";wait", 0);
        fault("wait if", 7);
        fault("wait if 1", 9);
        fault("costs 1", 0);
        fault("bars", 0);
        fault(Texts.many(";", 400), 0);
        fault("wait" + Texts.many(";", 396), 5);
        fault("go " + Texts.many("1+", 198), 103);
    }

    @Edge(promise = 16, says = "Words: \"hour\" | \"bread\" | \"inside\" | \"done\" | \"found\"")
    static void wordsOfOrders() {
        for (String word : "hour bread inside done found".split(" ")) {
            fault("wait if " + word + "=" + word, -1);
            fault("wait if " + word + "s=1", 8);
            fault("go " + word + " by " + word, -1);
        }
        for (String word : "person years want keys watch before others odds mood by of to times go wait costs".split(" ")) {
            fault("wait if " + word + "=1", 8);
        }
    }

    @Edge(promise = 16, says = "P, D, TIMES aside, NUMBERS and words count as PARTS.")
    static void partsOfOrders() {
        fault("wait if 1=" + Texts.many("1+", 48) + "1", -1);
        fault("wait if 1=" + Texts.many("1+", 49) + "1", 108);
        fault("wait times 20 if 1=" + Texts.many("1+", 48) + "1;wait times 20", -1);
        fault("wait if 1=" + Texts.many("holds 1 1+", 36) + Texts.many("1+", 12) + "1", -1);
        fault("wait if 1=" + Texts.many("holds 1 1+", 36) + Texts.many("1+", 13) + "1", 396);
        fault("wait if 1=" + Texts.many("1+", 47) + "holds 1 1+place 1", -1);
        fault("wait if 1=" + Texts.many("1+", 48) + "holds 1 1+place 1", 116);
        fault("wait if 1=" + Texts.many("1+", 49) + "holds 1 1", 108);
        fault("go 1 by 1 if 1=" + Texts.many("1+", 46) + "1", -1);
        fault("go 1 by 1 if 1=" + Texts.many("1+", 47) + "1", 109);
        fault("give 1 of 1 to 1 if 1=" + Texts.many("1+", 45) + "1", -1);
        fault("give 1 of 1 to 1 if 1=" + Texts.many("1+", 46) + "1", 114);
        fault("go 1 by 1;wait if 1=" + Texts.many("1+", 46) + "1", -1);
        fault("go 1 by 1;wait if 1=" + Texts.many("1+", 47) + "1", 114);
    }

    @Edge(promise = 16, says = "8 brackets of both kinds within one another (FAULT at the 9th)")
    static void bracketsOfOrders() {
        fault("go [[[[[[[[1]]]]]]]] by [[[[[[[[1]]]]]]]]", -1);
        fault("go [[[[[[[[[1]]]]]]]]] by 1", 11);
        fault("go 1 by [[[[[[[[[1]]]]]]]]]", 16);
        fault("wait if (((((((([1]=1))))))))", 16);
        fault("wait if ((((((((1=1))))))))", -1);
    }

    @Edge(promise = 15, says = "each time its \"if\" is asked (not run, if it is not so or BROKEN)")
    static void askedEachTime() {
        KeyKeepers x = new KeyKeepers();
        runs(x, "wait times 20 if hour<3", 3);
        runs(x, "wait times 20 if done%2=0", 1);
        runs(x, "wait times 20 if 1/hour=1", 0);
        runs(x, "wait if 1/0=1; wait if 1000*1000*1000+1>0; wait if not 1/0=1", 0);
        runs(x, "wait times 5 if 12/[hour-6]<0", 2);
        Edges.due("count(14)", x.count(14), 6);
    }

    @Edge(promise = 15, says = "then its SUMS from the left")
    static void sumsAreNotAskedWithoutIf() {
        KeyKeepers x = Texts.yard();
        runs(x, "go 1/0 by 0 if 1=2; give 0 of 1%0 to 0 if 1=2; go 0 by 1/0 if 1/0=1", 0);
        cannotBe(x, "go 1/0 by 0 if 1=1", 0);
        runs(x, "go 7-2*3-1 by [0]; go 0 by 0", 2);
    }

    @Edge(promise = 15, says = "inside: how many are not OUTSIDE")
    static void nobodyAndAllInside() {
        KeyKeepers x = new KeyKeepers();
        isSo(x, "inside=0");
        x = Texts.yard();
        isSo(x, "inside=3");
        runs(x, "go 0 by 0 if inside=3; wait if inside=2; go 0 by 0; wait if inside=3", 4);
        x.key(1, 0, 1);
        x.key(2, 0, 1);
        x.key(2, 1, 1);
        runs(x, "go 0 by 0; go 1 by 0; go 2 by 1; go 2 by 0; wait if inside=0", 5);
    }

    @Edge(promise = 15, says = "done: how many were run in this TEXT")
    static void doneInThisText() {
        KeyKeepers x = new KeyKeepers();
        runs(x, "wait times 3 if done=0", 1);
        runs(x, "wait if done=0; wait if 1=2; wait if done=1; wait times 2; wait if done=4", 5);
        runs(x, Texts.many("wait times 20;", 11) + "wait times 20 if done<239", 239);
        isSo(x, "done=0");
    }

    @Edge(promise = 15, says = "found: how many the latest inspection in it found (-1: none)")
    static void foundInThisText() {
        KeyKeepers x = Texts.yard();
        x.inspect();
        isSo(x, "found=0-1");
        runs(x, "inspect if found=0-1; wait if found=3; go 0 by 0; wait if found=3; inspect; wait if found=2", 6);
        isSo(x, "found=0-1");
        x = Texts.crowd(1, 1);
        x.door(0, 1);
        x.key(0, 0, 1);
        runs(x, "go 0 by 0; inspect; wait if found=0", 3);
    }

    @Edge(promise = 15, says = "holds: 1 if one has a KEY, else 0 (-1: no such PRISONER)")
    static void whoIsNotThere() {
        KeyKeepers x = new KeyKeepers();
        isSo(x, "place 0=0-1 and holds 0 0=0-1");
        isSo(x, "place 7=0-1 and holds 7 11=0-1");
        x = Texts.yard();
        isSo(x, "place 2=2 and place 3=0-1");
        isSo(x, "holds 0 0=1 and holds 0 1=1 and holds 0 2=0 and holds 0 11=0");
        isSo(x, "holds 2 0=0 and holds 3 0=0-1");
        x.go(0, 0);
        isSo(x, "place 0=0");
        x = Texts.crowd(8, 9);
        for (int d = 0; d < 12; d++) x.door(1, 2);
        x.key(7, 11, 1);
        isSo(x, "place 7=9 and holds 7 11=1 and holds 7 10=0 and holds 6 11=0");
    }

    @Edge(promise = 15, says = "One that can't be (a BROKEN SUM, as go(), give(), inspect(), pass() are REFUSED) ends it")
    static void ordersThatCannotBe() {
        String[] ends = {"go 0 by 1/0", "go 1/0 by 0", "give 1/0 of 0 to 1", "give 0 of 1/0 to 1", "give 0 of 0 to 1/0",
            "go 3 by 0", "go 0-1 by 0", "go 0 by 2", "go 0 by 0-1", "go 2 by 1", "go 1000*1000 by 0", "give 2 of 0 to 1",
            "give 0 of 3 to 1", "give 0 of 0 to 3", "give 0 of 0 to 0", "give 0 of 0 to 2", "give 0 of 1 to 0",
            "give 0-1 of 0 to 1", "go 0 by 1000*1000*1000+1"};
        for (String end : ends) {
            KeyKeepers x = Texts.yard();
            cannotBe(x, end, 0);
            cannotBe(x, "wait;inspect;" + end + ";wait", 2);
            Edges.due("count(9) behind " + end, x.count(9), 2);
            Edges.due("count(8) behind " + end, x.count(8), 0);
            Edges.due("count(5) behind " + end, x.count(5), 0);
        }
    }

    @Edge(promise = 15, says = "One that can't be (a BROKEN SUM, as go(), give(), inspect(), pass() are REFUSED) ends it")
    static void nobodyToInspectNoHourToPass() {
        KeyKeepers x = new KeyKeepers();
        cannotBe(x, "wait times 3; inspect", 1);
        Edges.due("count(14)", x.count(14), 0);
        x.terms(0, 9990);
        runs(x, "wait times 9", 9);
        cannotBe(x, "wait", 0);
        x.terms(0, 9990);
        cannotBe(x, "wait times 10", 0);
        Edges.due("count(14)", x.count(14), 9990);
        runs(x, "wait times 20 if hour<999*10+9", 9);
        runs(x, "inspect if 1=2; wait if hour<999*10+9", 0);
    }

    @Edge(promise = 15, says = "all is as it was ahead of it")
    static void allIsAsItWas() {
        KeyKeepers x = Texts.yard();
        x.go(0, 1);
        x.inspect();
        cannotBe(x, "go 0 by 1; go 0 by 1; go 0 by 1; give 1 of 0 to 1; inspect times 20; wait times 20; go 2 by 0", 6);
        Edges.due("of(0, 2)", x.of(0, 2), 2);
        Edges.due("of(0, 3)", x.of(0, 3), 3);
        Edges.due("of(1, 3)", x.of(1, 3), 0);
        Edges.due("count(13)", x.count(13), 6);
        Edges.due("count(14)", x.count(14), 0);
        Edges.due("count(5)", x.count(5), 2);
        Edges.due("undo() of what was ahead", x.undo(), 2);
        Edges.due("undo() of what was ahead", x.undo(), 0);
        Edges.due("of(0, 2)", x.of(0, 2), 1);
        Edges.due("undo()", x.undo(), -3);
    }

    @Edge(promise = 15, says = "all is as it was ahead of it")
    static void whatCanBeUndoneIsAsItWas() {
        KeyKeepers x = Texts.yard();
        for (int i = 0; i < 8; i++) {
            x.pass();
            x.go(0, 1);
        }
        cannotBe(x, "inspect times 20; inspect times 20; go 2 by 0", 2);
        Edges.due("count(5)", x.count(5), 16);
        for (int i = 7; i >= 0; i--) {
            Edges.due("undo()", x.undo(), 0);
            Edges.due("of(0, 2)", x.of(0, 2), i % 2 == 0 ? 1 : 2);
            Edges.due("undo()", x.undo(), 3);
            Edges.due("count(14)", x.count(14), i);
        }
        Edges.due("undo()", x.undo(), -3);
    }

    @Edge(promise = 15, says = "Run CLAUSE by CLAUSE")
    static void eachTextOfOrdersBeginsAnew() {
        KeyKeepers x = new KeyKeepers();
        String fifty = "wait if 50=" + Texts.many("1+", 48) + "1+1;";
        for (int i = 0; i < 15; i++) {
            Edges.refused(x, "orders() of 51 PARTS", Texts.orders(x, fifty), -6);
            runs(x, "wait times 2 if 49=" + Texts.many("1+", 48) + "1", 2);
        }
        Edges.due("count(14)", x.count(14), 30);
    }

    @Edge(promise = 17, says = "Which CLAUSE of the latest orders() could not be. NONE.")
    static void noneWasStopped() {
        KeyKeepers x = Texts.yard();
        Edges.due("stopped() ahead of any", x.stopped(), -1);
        cannotBe(x, "wait; go 2 by 0", 1);
        runs(x, "wait", 1);
        cannotBe(x, "go 2 by 0", 0);
        Edges.refused(x, "orders() of nonsense", Texts.orders(x, "nonsense"), -6);
        Edges.due("stopped() of nonsense", x.stopped(), -1);
        cannotBe(x, "go 2 by 0", 0);
        Texts.law(x, "bars");
        x.go(2, 0);
        Edges.due("stopped() is of orders() alone", x.stopped(), 0);
        Edges.refused(x, "orders() of an empty TAPE", x.orders(), -6);
        Edges.due("stopped() of an empty TAPE", x.stopped(), -1);
    }

    @Edge(promise = 17, says = "Which CLAUSE of the latest orders() could not be.")
    static void eachOfTwelveCanStop() {
        for (int clause = 0; clause < 12; clause++) {
            KeyKeepers x = new KeyKeepers();
            cannotBe(x, Texts.many("wait;", clause) + "inspect" + Texts.many(";wait", 11 - clause), clause);
        }
        cannotBe(new KeyKeepers(), "wait if 1=2; wait times 20; inspect; go 0 by 0", 2);
    }
}
