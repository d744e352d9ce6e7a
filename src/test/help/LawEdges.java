/** Terms II as far as LAWS show it, promises 14, 16, 18, 19: TOKENS, what can be read, what a LAW tells. */
final class LawEdges {
    private static void fault(String text, int at) {
        KeyKeepers x = new KeyKeepers();
        Edges.due("law() of '" + text + "'", Texts.law(x, text), at == -1 ? 0 : -6);
        Edges.due("fault() of '" + text + "'", x.fault(), at);
        Edges.due("count(4) behind '" + text + "'", x.count(4), at == -1 ? 1 : 0);
    }

    /** What a WATCH COSTS by this SUM; BROKEN is what it COSTS without. */
    private static final int BROKEN = 5;

    private static void costs(String sum, int want) {
        Edges.due("costs " + sum, Texts.under("costs " + sum).asks(0, 0, 0), want);
    }

    /** Whether a TEST is so and not BROKEN. */
    private static void isSo(String test, boolean so) {
        Edges.due("if " + test, Texts.under("costs 77 if " + test).asks(0, 0, 0), so ? 77 : 5);
    }

    private static void isBroken(String test) {
        isSo(test, false);
        isSo("not (" + test + ")", false);
    }

    @Edge(promise = 14, says = "LAWS, 6 at most")
    static void noSeventhLaw() {
        KeyKeepers x = Texts.crowd(1, 1);
        for (int k = 0; k < 6; k++) Edges.fine(x, "law()", Texts.law(x, "costs " + (k + 10)), k);
        Edges.refused(x, "law 7", Texts.law(x, "costs 1"), -5);
        Edges.due("count(4)", x.count(4), 6);
        for (int k = 0; k < 6; k++) {
            x.force(k);
            Edges.due("asks(0, 0, 0) of LAW " + k, x.asks(0, 0, 0), k + 10);
        }
        Edges.refused(x, "force(6)", x.force(6), -2);
    }

    @Edge(promise = 14, says = "-5 (ahead of reading it; the TAPE is empty then, too)")
    static void noRoomAheadOfReading() {
        KeyKeepers x = new KeyKeepers();
        for (int k = 0; k < 6; k++) Texts.law(x, "bars");
        Texts.orders(x, "wait wait");
        Edges.due("fault()", x.fault(), 5);
        Edges.refused(x, "law() of nonsense without room", Texts.law(x, "nonsense"), -5);
        Edges.due("count(6)", x.count(6), 0);
        Edges.due("fault() is of orders()", x.fault(), 5);
        Edges.refused(x, "law() of an empty TAPE without room", x.law(), -5);
        Edges.refused(x, "law() of blanks without room", Texts.law(x, "   "), -5);
        Edges.due("count(6)", x.count(6), 0);
        Edges.due("fault() is of orders()", x.fault(), 5);
    }

    @Edge(promise = 14, says = "-6 (blanks alone: FAULT at the end)")
    static void lawOfBlanks() {
        fault("", 0);
        fault(" ", 1);
        fault(Texts.many(" ", 20), 20);
        fault(Texts.many(" ", 400), 400);
    }

    @Edge(promise = 14, says = "The TAPE, which is empty then, becomes a LAW: its number.")
    static void tapeIsEmptyBehindLaw() {
        KeyKeepers x = new KeyKeepers();
        Edges.fine(x, "law()", Texts.law(x, "bars"), 0);
        Edges.due("count(6)", x.count(6), 0);
        Edges.refused(x, "law() of the rest", x.law(), -6);
        Edges.due("fault()", x.fault(), 0);
        Edges.refused(x, "law() of nonsense", Texts.law(x, "nonsense"), -6);
        Edges.due("count(6)", x.count(6), 0);
        Edges.fine(x, "law() behind nonsense", Texts.law(x, "bars"), 1);
        Edges.due("count(4)", x.count(4), 2);
    }

    @Edge(promise = 16, says = "NONE without.")
    static void noFault() {
        KeyKeepers x = new KeyKeepers();
        Edges.due("fault() ahead of any", x.fault(), -1);
        Texts.law(x, "bars bars");
        Edges.due("fault()", x.fault(), 5);
        Texts.law(x, "bars");
        Edges.due("fault() of a good law()", x.fault(), -1);
        Texts.orders(x, "wait 7");
        Edges.due("fault() of orders()", x.fault(), 5);
        Texts.orders(x, "inspect");
        Edges.due("fault() of orders() that can't be", x.fault(), -1);
        Texts.row(x, "abc");
        Edges.due("fault() is not row()'s", x.fault(), -1);
    }

    @Edge(promise = 16, says = "FAULT: the first TOKEN that can't go on there (the end's: the TEXT's length).")
    static void faultsOfClauses() {
        fault("cost 1", 0);
        fault("costs", 5);
        fault("costs ", 6);
        fault("costs costs 1", 6);
        fault("costs 1 1", 8);
        fault("costs 1 times 2", 8);
        fault("costs 1 by 1", 8);
        fault("bars 1", 5);
        fault("bars times 2", 5);
        fault("bars bars", 5);
        fault("bars;", 5);
        fault("bars;  ", 7);
        fault(";bars", 0);
        fault("bars;;bars", 5);
        fault("bars;want", 5);
        fault("go 1 by 1", 0);
        fault("wait", 0);
        fault("inspect", 0);
    }

    @Edge(promise = 16, says = "FAULT: the first TOKEN that can't go on there (the end's: the TEXT's length).")
    static void faultsOfTests() {
        fault("costs 1 if", 10);
        fault("costs 1 if 1", 12);
        fault("costs 1 if 1 <", 14);
        fault("costs 1 if 1 < 2 3", 17);
        fault("costs 1 if 1 < 2 and", 20);
        fault("costs 1 if 1 < 2 or or", 20);
        fault("costs 1 if 1=1 if 1=1", 15);
        fault("bars if 1=1 or", 14);
        fault("bars if 1=1 and", 15);
        fault("bars if 1=1 or ;", 15);
        fault("bars if", 7);
        fault("bars if (1=1", 12);
        fault("bars if (1=1]", 12);
        fault("bars if ()", 9);
        fault("bars if not", 11);
        fault("bars if 1=1 not 2=2", 12);
        fault("bars if want", 12);
        fault("bars if [1=1]", 10);
        fault("bars if (1)=1", 10);
        fault("bars if (1=1)=1", 13);
        fault("bars if 1=1=1", 11);
        fault("bars if 1=1)", 11);
    }

    @Edge(promise = 16, says = "FAULT: the first TOKEN that can't go on there (the end's: the TEXT's length).")
    static void faultsOfSums() {
        fault("costs 1 +", 9);
        fault("costs 1 + ", 10);
        fault("costs 1 + )", 10);
        fault("costs 1 + * 2", 10);
        fault("costs -1", 6);
        fault("costs (1)", 6);
        fault("costs [1", 8);
        fault("costs [1)", 8);
        fault("costs []", 7);
        fault("costs 1]", 7);
        fault("costs 1)", 7);
        fault("costs 1 = 1", 8);
        fault("costs not 1", 6);
        fault("gains", 5);
        fault("fines 1 % if", 10);
    }

    @Edge(promise = 16, says = "a word, as told.")
    static void wordsOfLaws() {
        for (String word : "person years want keys watch before others hour odds mood".split(" ")) {
            fault("costs " + word, -1);
            fault("bars if " + word + "=" + word, -1);
            fault("costs " + word + "s", 6);
            fault("costs " + word.substring(1), 6);
        }
        for (String word : "bread inside done found place holds most by of to times if or and not go give a x".split(" ")) {
            fault("costs " + word, 6);
        }
    }

    @Edge(promise = 16, says = "TOKENS: longest rows of letters a .. z")
    static void longestRowsOfLetters() {
        fault("costswant", 0);
        fault("costs wantwant", 6);
        fault("costs wan t", 6);
        fault("Costs 1", 0);
        fault("costs Want", 6);
        fault("costs wanT", 6);
        fault("costs want`", 10);
        fault("costs want{", 10);
        fault("barsif 1=1", 0);
        fault("bars if" + Texts.many("z", 393), 5);
    }

    @Edge(promise = 16, says = "of digits, single other bytes")
    static void longestRowsOfDigits() {
        costs("12", 12);
        costs("907", 907);
        fault("costs 1 2", 8);
        fault("costs 1:", 7);
        fault("costs /1", 6);
        fault("costs 1a", 7);
        fault("costs 1if1=1and2=2or3=3", -1);
        fault("costs1", -1);
        fault("bars if 1<=2", 10);
        fault("bars if 1<>2", 10);
        fault("bars if 1==2", 10);
    }

    @Edge(promise = 16, says = "single other bytes")
    static void allBytesBehindAClause() {
        for (int b = 0; b < 256; b++) {
            boolean letter = b >= 'a' && b <= 'z';
            fault("bars" + (char) b, letter ? 0 : b == ' ' ? -1 : b == ';' ? 5 : 4);
        }
    }

    @Edge(promise = 16, says = "any blanks (32) between")
    static void anyBlanks() {
        fault("  bars  ", -1);
        fault("bars if(1=1)and not(2=2)", -1);
        fault("   costs   1   +   2   if   1   =   1   ;   bars   ", -1);
        fault("co sts 1", 0);
        fault("bars" + Texts.many(" ", 396), -1);
        fault(Texts.many(" ", 396) + "bars", -1);
        fault("costs" + Texts.many(" ", 395), 400);
        fault(Texts.many(" ", 399) + "b", 399);
    }

    @Edge(promise = 14, says = "12 at most (FAULT at the 13th's first TOKEN)")
    static void noThirteenthClause() {
        fault(Texts.many("bars;", 11) + "bars", -1);
        fault(Texts.many("bars;", 12) + "bars", 60);
        fault(Texts.many("bars;", 12) + "   bars", 63);
        fault(Texts.many("bars;", 12) + "nonsense", 60);
        fault(Texts.many("bars;", 12), 60);
        fault(Texts.many("bars;", 12) + "  ", 62);
        fault(Texts.many("bars;", 12) + ";", 60);
        fault(Texts.many("bars;", 11) + "bars bars", 60);
        fault(Texts.many("bars;", 11) + "bar", 55);
        fault(Texts.many("bars;", 79) + "bars", 60);
    }

    @Edge(promise = 14, says = "12 at most (FAULT at the 13th's first TOKEN)")
    static void theTwelfthClauseTells() {
        KeyKeepers x = Texts.under(Texts.many("costs 7;", 11) + "costs 8");
        Edges.due("asks(0, 0, 0)", x.asks(0, 0, 0), 8);
        x = Texts.under("bars;gains 7;" + Texts.many("costs 7;", 9) + "costs 8");
        Edges.due("asks(0, 2, 0) by the first", x.asks(0, 2, 0), 1);
        Edges.due("asks(0, 4, 0) by the second", x.asks(0, 4, 0), 7);
        Edges.due("asks(0, 0, 0) by the twelfth", x.asks(0, 0, 0), 8);
    }

    @Edge(promise = 16, says = "NUMBER (to 1,000)")
    static void numbersToAThousand() {
        fault("costs 0", -1);
        fault("costs 1000", -1);
        fault("costs 1001", 6);
        fault("costs 1 + 1001", 10);
        fault("costs 10000", 6);
        fault("bars if 1 = 1001", 12);
        costs("1000/2", 500);
        costs("0", 0);
    }

    @Edge(promise = 16, says = "NUMBER (to 1,000)")
    static void numbersDoNotWrapAround() {
        fault("costs 65537", 6);
        fault("costs 2147483648", 6);
        fault("costs 4294967296", 6);
        fault("costs 4294967297", 6);
        fault("costs 4294968296", 6);
        fault("costs 18446744073709551616", 6);
        fault("costs 18446744073709551617", 6);
        fault("costs 340282366920938463463374607431768211457", 6);
        fault("costs " + Texts.many("9", 394), 6);
        fault("costs 1" + Texts.many("0", 393), 6);
    }

    @Edge(promise = 16, says = "of digits")
    static void noughtsAhead() {
        costs("007", 7);
        fault("costs 0001000", -1);
        fault("costs 0001001", 6);
        fault("costs " + Texts.many("0", 393) + "7", -1);
    }

    @Edge(promise = 16, says = "50 PARTS that are NUMBERS and words (FAULT at the 51st)")
    static void noFiftyFirstPart() {
        fault("costs " + Texts.many("1+", 49) + "1", -1);
        fault("costs " + Texts.many("1+", 50) + "1", 106);
        fault("costs " + Texts.many("1+", 50) + "want", 106);
        fault("costs " + Texts.many("1+", 50) + "1001", 106);
        fault("costs " + Texts.many("want+", 49) + "want", -1);
        fault("costs " + Texts.many("want+", 50) + "want", 256);
        fault("costs " + Texts.many("1+", 50) + "[1]", 107);
        fault("costs " + Texts.many("[1]+", 49) + "[1]", -1);
        costs(Texts.many("1+", 49) + "1", 50);
    }

    @Edge(promise = 16, says = "50 PARTS that are NUMBERS and words (FAULT at the 51st)")
    static void partsOfAllClauses() {
        String fifty = "costs " + Texts.many("1+", 24) + "1 if " + Texts.many("1+", 23) + "1=1";
        fault(fifty, -1);
        fault(fifty + ";bars", -1);
        fault(fifty + ";bars if 1=1", fifty.length() + 9);
        fault(fifty + ";bars if (want=1)", fifty.length() + 10);
        fault(fifty + " and 1=1", fifty.length() + 5);
        fault("costs " + Texts.many("1+", 48) + "1;gains 1", -1);
        fault("costs " + Texts.many("1+", 48) + "1;gains 1+1", 112);
        KeyKeepers x = new KeyKeepers();
        Texts.law(x, "costs " + Texts.many("1+", 50) + "1");
        Edges.due("law() of fifty behind that", Texts.law(x, fifty), 0);
    }

    @Edge(promise = 16, says = "8 brackets of both kinds within one another (FAULT at the 9th)")
    static void noNinthBracket() {
        fault("costs " + Texts.many("[", 8) + "1" + Texts.many("]", 8), -1);
        fault("costs " + Texts.many("[", 9) + "1" + Texts.many("]", 9), 14);
        fault("bars if " + Texts.many("(", 8) + "1=1" + Texts.many(")", 8), -1);
        fault("bars if " + Texts.many("(", 9) + "1=1" + Texts.many(")", 9), 16);
        fault("bars if " + Texts.many("(", 9), 16);
        fault("bars if " + Texts.many("(not ", 8) + "1=1" + Texts.many(")", 8), -1);
        fault("bars if " + Texts.many("(not ", 9) + "1=1" + Texts.many(")", 9), 48);
        fault("costs " + Texts.many("[", 394), 14);
    }

    @Edge(promise = 16, says = "8 brackets of both kinds within one another (FAULT at the 9th)")
    static void bracketsOfBothKinds() {
        fault("bars if ((((([[[1]]]=1)))))", -1);
        fault("bars if ((((([[[[1]]]]=1)))))", 16);
        fault("bars if (((((1=[[[1]]])))))", -1);
        fault("bars if (((((1=[[[[1]]]])))))", 18);
        fault("bars if ((((((((1=1))))))))", -1);
        fault("bars if (((((((([1]=1))))))))", 16);
        fault("bars if ((((((((1=[1]))))))))", 18);
        fault("bars if [[[[[[[[1]]]]]]]]=[[[[[[[[1]]]]]]]]", -1);
    }

    @Edge(promise = 16, says = "8 brackets of both kinds within one another (FAULT at the 9th)")
    static void bracketsBesideOneAnother() {
        fault("costs " + Texts.many("[1]+", 20) + "[1]", -1);
        fault("costs [[[[[[[[1]]]]]]]]+[[[[[[[[1]]]]]]]]", -1);
        fault("costs [[[[[[[[1]]]]]]]]+[[[[[[[[[1]]]]]]]]]", 32);
        fault("bars if " + Texts.many("(1=1)or", 20) + "(1=1)", -1);
        fault("bars if ((((((((1=1))))))))and((((((((1=1))))))));bars if ((((((((1=1))))))))", -1);
    }

    @Edge(promise = 19, says = "8 brackets of both kinds within one another")
    static void asDeepAsCanBe() {
        String deep = Texts.many("1+1*[", 8) + "1" + Texts.many("]", 8);
        costs(deep, 9);
        isSo("9=" + deep, true);
        isSo(Texts.many("1=2 or (1=1 and ", 8) + "9=9" + Texts.many(")", 8), true);
        isSo(Texts.many("not (1=1 and ", 8) + "9=9" + Texts.many(")", 8), true);
        isSo(Texts.many("1=2 or ", 15) + "9=" + deep, true);
        isSo(Texts.many("1=1 and ", 15) + "9=" + deep, true);
        isSo(Texts.many("(1=1 and ", 4) + "1+1*[1+1*[1+1*[1+1*[1]]]]=5" + Texts.many(")", 4), true);
    }

    @Edge(promise = 16, says = "PLAIN: \"not\" PLAIN")
    static void aLongRowOfNots() {
        isSo(Texts.many("not ", 94) + "1=1", true);
        isSo(Texts.many("not ", 93) + "1=1", false);
        isSo(Texts.many("not ", 93) + "1=2", true);
        isSo("not 1=1 or 1=1", true);
        isSo("not 1=2 and 1=2", false);
        fault("bars if " + Texts.many("not ", 98), 400);
    }

    @Edge(promise = 19, says = "Beyond 1,000,000,000 either way")
    static void aThousandMillionCanBe() {
        costs("1000*1000*1000/1000/1000/2", 500);
        costs("0-[0-1000*1000*1000]/1000/1000/2", 500);
        costs("[999*1000*1000+1000*1000]/1000/1000/2", 500);
        costs("1000*1000*1000-1000*1000*1000+8", 8);
        isSo("1000*1000*1000>999*1000*1000", true);
        isSo("0-1000*1000*1000<0", true);
    }

    @Edge(promise = 19, says = "Beyond 1,000,000,000 either way")
    static void beyondAThousandMillionIsBroken() {
        costs("1000*1000*1000+1", BROKEN);
        costs("[1000*1000*1000+1]/1000/1000/2", BROKEN);
        costs("0-[0-1000*1000*1000-1]/1000/1000/2", BROKEN);
        costs("0-1000*1000*1000-1", BROKEN);
        costs("1000*1000*1000*2", BROKEN);
        costs("[0-1000*1000*1000]*2", BROKEN);
        costs("1000*1000*1000+1-2", BROKEN);
        costs("[0-1000*1000*1000]-1", BROKEN);
        isBroken("1000*1000*1000+1>0");
        isBroken("0<1000*1000*1000+1");
        isBroken("0-1000*1000*1000-1<0");
    }

    @Edge(promise = 19, says = "Beyond 1,000,000,000 either way")
    static void sumsDoNotWrapAround() {
        costs("256*256*256*256+7", BROKEN);
        costs("256*256*256*256/256/256/256+7", BROKEN);
        costs("1000*1000*1000*1000/1000/1000/1000+7", BROKEN);
        costs("1000*1000*1000*1000*1000*1000*1000", BROKEN);
        costs("256*256*256*256*256*256*256*256+7", BROKEN);
        costs("[1000*1000*1000]*[1000*1000*1000]", BROKEN);
        costs("1000*1000*1000+1000*1000*1000+1000*1000*1000", BROKEN);
    }

    @Edge(promise = 19, says = "or divided by 0")
    static void dividedByNought() {
        costs("1/0", BROKEN);
        costs("1%0", BROKEN);
        costs("0/0", BROKEN);
        costs("0%0", BROKEN);
        costs("7+1/[1-1]", BROKEN);
        costs("0*[1/0]", BROKEN);
        costs("7/watch", BROKEN);
        costs("7%before", BROKEN);
        isBroken("1/0=1");
        isBroken("1=1%0");
    }

    @Edge(promise = 19, says = "(/ cut towards 0, % what is left then)")
    static void cutTowardsNought() {
        costs("7/2", 3);
        costs("7%2", 1);
        costs("6/7", 0);
        costs("6%7", 6);
        costs("10+[0-7]/2", 7);
        costs("10+[0-1]/2", 10);
        costs("10+7/[0-2]", 7);
        costs("10+[0-7]/[0-2]", 13);
        costs("10+[0-7]%2", 9);
        costs("10+7%[0-2]", 11);
        costs("10+[0-7]%[0-2]", 9);
        costs("10+[0-6]%2", 10);
    }

    @Edge(promise = 19, says = "(\"or\", \"and\" ask what stands behind only if it can still matter)")
    static void whatStandsBehindOr() {
        isSo("1=1 or 1/0=1", true);
        isSo("1=1 or 1/0=1 or 1%0=1", true);
        isSo("1=1 or 1/0=1 and 1/0=1", true);
        isSo("1=2 or 1=1 or 1/0=1", true);
        isSo("1=2 and 1/0=1 or 1=1", true);
        isBroken("1=2 or 1/0=1");
        isBroken("1/0=1 or 1=1");
        isBroken("1=2 or 1/0=1 or 1=1");
        isBroken("1=2 or 1=1 and 1/0=1");
    }

    @Edge(promise = 19, says = "(\"or\", \"and\" ask what stands behind only if it can still matter)")
    static void whatStandsBehindAnd() {
        isSo("not (1=2 and 1/0=1)", true);
        isSo("not (1=2 and 1/0=1 and 1%0=1)", true);
        isSo("not (1=1 and 1=2 and 1/0=1)", true);
        isSo("not (1=2 and (1/0=1 or 1=1))", true);
        isBroken("1=1 and 1/0=1");
        isBroken("1/0=1 and 1=2");
        isBroken("1=1 and 1/0=1 and 1=2");
        isBroken("not 1/0=1");
    }

    @Edge(promise = 14, says = "TEXTS are on a TAPE of at most 400 bytes.")
    static void fourHundredTokens() {
        fault(Texts.many(";", 400), 0);
        fault("bars" + Texts.many(";", 396), 5);
        fault("costs " + Texts.many("1+", 197), 106);
        fault("bars if " + Texts.many("(", 392), 16);
        fault("costs want" + Texts.many("+", 390), 11);
    }

    @Edge(promise = 11, says = "The TAPE has its first n bytes alone: n.")
    static void bytesBehindTheEndAreNotRead() {
        KeyKeepers x = Texts.crowd(1, 1);
        Texts.put(x, "costs 777; bars");
        x.end(7);
        x.force(x.law());
        Edges.due("asks(0, 0, 0) by 'costs 7'", x.asks(0, 0, 0), 7);
        Edges.due("asks(0, 2, 0) by 'costs 7'", x.asks(0, 2, 0), 0);
        Texts.put(x, "costs wanton");
        x.end(10);
        Edges.fine(x, "law() of 'costs want'", x.law(), 1);
        Texts.put(x, "costs want");
        x.end(9);
        Edges.refused(x, "law() of 'costs wan'", x.law(), -6);
        Edges.due("fault()", x.fault(), 6);
        Texts.put(x, "costs 1001");
        x.end(8);
        Edges.fine(x, "law() of 'costs 10'", x.law(), 2);
    }

    @Edge(promise = 14, says = "50 PARTS that are NUMBERS and words (FAULT at the 51st), 8 brackets of both kinds within one another")
    static void eachTextBeginsAnew() {
        KeyKeepers x = Texts.crowd(1, 1);
        String bad = "bars;costs [[[[[[[[" + Texts.many("1+", 50) + "1]]]]]]]]";
        for (int i = 0; i < 20; i++) {
            Edges.refused(x, "law() of 51 PARTS", Texts.law(x, bad), -6);
            Edges.due("fault()", x.fault(), 119);
        }
        String good = Texts.many("bars;", 11) + "costs [[[[[[[[" + Texts.many("1+", 49) + "1]]]]]]]]";
        Edges.fine(x, "law() of 50 PARTS, 12 CLAUSES, 8 brackets", Texts.law(x, good), 0);
        x.force(0);
        Edges.due("asks(0, 0, 0)", x.asks(0, 0, 0), 50);
        for (int i = 1; i < 6; i++) Edges.fine(x, "law() again", Texts.law(x, good), i);
        x.force(5);
        Edges.due("asks(0, 0, 0) of LAW 5", x.asks(0, 0, 0), 50);
    }

    @Edge(promise = 14, says = "TEXTS are on a TAPE of at most 400 bytes.")
    static void textsOfAFullTape() {
        String law = "costs 7" + Texts.many(" ", 380) + "if watch=0 or";
        fault(law, 400);
        fault(law.substring(0, 397), -1);
        KeyKeepers x = Texts.under(Texts.many(" ", 393) + "costs 7");
        Edges.due("asks(0, 0, 0) by a law at the end of the TAPE", x.asks(0, 0, 0), 7);
        x = Texts.under("costs 9;bars if  " + Texts.many("not ", 93) + "not 1=watch");
        Edges.due("asks(0, 2, 0) by a law of 400 bytes", x.asks(0, 2, 0), 0);
        Edges.due("asks(0, 2, 1) by a law of 400 bytes", x.asks(0, 2, 1), 1);
    }

    @Edge(promise = 19, says = "SUM (\"<\" | \">\" | \"=\") SUM")
    static void neitherLessNorMore() {
        String[] tests = {"1<2", "2<2", "3<2", "1>2", "2>2", "3>2", "1=2", "2=2", "3=2", "0-1<0", "0-1>0", "0=0-0"};
        boolean[] so = {true, false, false, false, false, true, false, true, false, true, false, true};
        for (int i = 0; i < tests.length; i++) {
            isSo(tests[i], so[i]);
            isSo("not " + tests[i], !so[i]);
        }
    }

    @Edge(promise = 19, says = "TEST: BOTH {\"or\" BOTH}. BOTH: PLAIN {\"and\" PLAIN}.")
    static void andAheadOfOr() {
        isSo("1=1 or 1=1 and 1=2", true);
        isSo("(1=1 or 1=1) and 1=2", false);
        isSo("1=2 and 1=2 or 1=1", true);
        isSo("1=2 and (1=2 or 1=1)", false);
        isSo("not 1=1 or 1=1", true);
        isSo("not (1=1 or 1=1)", false);
    }

    @Edge(promise = 19, says = "SUM: TERM {(\"+\" | \"-\") TERM}. TERM: PART {(\"*\" | \"/\" | \"%\") PART}.")
    static void sumsFromTheLeft() {
        costs("10-3-2", 5);
        costs("10-[3-2]", 9);
        costs("100/5/2", 10);
        costs("100/[5/2]", 50);
        costs("17%10%4", 3);
        costs("2+3*4", 14);
        costs("[2+3]*4", 20);
        costs("20-2*3%4+1", 19);
        costs("7*3/2", 10);
        costs("7/2*3", 9);
    }

    @Edge(promise = 18, says = "one is in FORCE (NONE at first: no CLAUSE)")
    static void noLawInForceAtFirst() {
        KeyKeepers x = Texts.crowd(1, 1);
        Texts.law(x, "costs 77; gains 77; fines 77; bars");
        Edges.due("count(12)", x.count(12), -1);
        int[] told = {5, 5, 0, 0, 12, 9, 1};
        for (int what = 0; what < 7; what++) Edges.due("asks(0, " + what + ", 0)", x.asks(0, what, 0), told[what]);
        Edges.fine(x, "force(0)", x.force(0), -1);
        int[] then = {77, 77, 1, 1, 77, 77, 1};
        for (int what = 0; what < 7; what++) Edges.due("asks(0, " + what + ", 0)", x.asks(0, what, 0), then[what]);
    }

    @Edge(promise = 18, says = "A LAW is in FORCE (NONE: none): which was.")
    static void noneInForceAgain() {
        KeyKeepers x = Texts.under("costs 77");
        Edges.fine(x, "force(0) again", x.force(0), 0);
        Edges.fine(x, "force(-1)", x.force(-1), 0);
        Edges.due("asks(0, 0, 0)", x.asks(0, 0, 0), 5);
        Edges.fine(x, "force(-1): NONE was, that is not REFUSED", x.force(-1), -1);
        Edges.due("count(7)", x.count(7), 0);
        Edges.due("count(12)", x.count(12), -1);
    }

    @Edge(promise = 18, says = "which was. -2.")
    static void noSuchLaw() {
        KeyKeepers x = new KeyKeepers();
        Edges.refused(x, "force(0) without a law", x.force(0), -2);
        Texts.law(x, "bars");
        x.force(0);
        Edges.refused(x, "force(1)", x.force(1), -2);
        Edges.refused(x, "force(-2)", x.force(-2), -2);
        for (int far : Edges.FAR) Edges.refused(x, "force(" + far + ")", x.force(far), -2);
        Edges.due("count(12) is as it was", x.count(12), 0);
    }

    @Edge(promise = 19, says = "for a WATCH 0 .. 5")
    static void watchesHaveLimits() {
        KeyKeepers x = Texts.under("costs watch+7; bars if watch=5 or watch=0");
        for (int what = 0; what < 4; what++) {
            for (int k = 0; k < 6; k++) {
                Edges.due("asks(0, " + what + ", " + k + ")", x.asks(0, what, k), what < 2 ? k + 7 : k % 5 == 0 ? 1 : 0);
            }
            Edges.due("asks(0, " + what + ", 6)", x.asks(0, what, 6), -1);
            Edges.due("asks(0, " + what + ", 7)", x.asks(0, what, 7), -1);
            Edges.due("asks(0, " + what + ", -1)", x.asks(0, what, -1), -1);
            for (int far : Edges.FAR) Edges.due("asks(0, " + what + ", " + far + ")", x.asks(0, what, far), -1);
        }
    }

    @Edge(promise = 19, says = "what staying out while k others (0 .. 7) do")
    static void othersHaveLimits() {
        KeyKeepers x = Texts.under("gains others+7; fines others+7");
        x.terms(2, 9);
        for (int what = 4; what < 7; what++) {
            for (int k = 0; k < 8; k++) {
                Edges.due("asks(0, " + what + ", " + k + ")", x.asks(0, what, k), what < 6 ? k + 7 : 1);
            }
            Edges.due("asks(0, " + what + ", 8)", x.asks(0, what, 8), -1);
            Edges.due("asks(0, " + what + ", -1)", x.asks(0, what, -1), -1);
            for (int far : Edges.FAR) Edges.due("asks(0, " + what + ", " + far + ")", x.asks(0, what, far), -1);
        }
    }

    @Edge(promise = 19, says = "whether one STAYS OUT (6: 1, 0). NONE.")
    static void nothingElseIsAsked() {
        KeyKeepers x = Texts.under("costs 7");
        Edges.due("asks(0, 7, 0)", x.asks(0, 7, 0), -1);
        Edges.due("asks(0, -1, 0)", x.asks(0, -1, 0), -1);
        for (int far : Edges.FAR) Edges.due("asks(0, " + far + ", 0)", x.asks(0, far, 0), -1);
        for (int what = 0; what < 7; what++) {
            Edges.due("asks(3, " + what + ", 0)", x.asks(3, what, 0), -1);
            Edges.due("asks(-1, " + what + ", 0)", x.asks(-1, what, 0), -1);
            for (int far : Edges.FAR) Edges.due("asks(" + far + ", " + what + ", 0)", x.asks(far, what, 0), -1);
        }
        Edges.due("asks(2, 0, 5)", x.asks(2, 0, 5), 7);
        Edges.due("asks() of nobody", new KeyKeepers().asks(0, 0, 0), -1);
    }

    @Edge(promise = 19, says = "(before: 1, if the WATCH ahead is that one's, too, else 0; others -1)")
    static void wordsOfWatches() {
        KeyKeepers x = Texts.under("costs before+7; costs 100+others if watch=1; bars if before=1 and others=0-1");
        Edges.due("before 0", x.asks(0, 0, 0), 7);
        Edges.due("before 1, of WATCH 0, too", x.asks(0, 1, 0), 8);
        Edges.due("others", x.asks(0, 0, 1), 99);
        Edges.due("others, before 1", x.asks(0, 1, 1), 99);
        Edges.due("BARRED, before 0", x.asks(0, 2, 0), 0);
        Edges.due("BARRED, before 1", x.asks(0, 3, 0), 1);
    }

    @Edge(promise = 19, says = "(watch, before -1)")
    static void wordsOfStayingOut() {
        KeyKeepers x = Texts.under("gains watch+before*10+20; fines watch*10+before+20");
        for (int k = 0; k < 8; k++) {
            Edges.due("asks(0, 4, " + k + ")", x.asks(0, 4, k), 9);
            Edges.due("asks(0, 5, " + k + ")", x.asks(0, 5, k), 9);
        }
    }

    @Edge(promise = 19, says = "\"person\" | \"years\" | \"want\"")
    static void wordsAtTheirLimits() {
        KeyKeepers x = Texts.under("costs person+10*want+100*mood; gains odds*10; fines years; bars if hour=999*10+9");
        for (int p = 3; p < 8; p++) x.prisoner(p == 7 ? 99 : 1, p == 7 ? 9 : 0, 1);
        Edges.due("person 3, want 0, mood 0", x.asks(3, 0, 0), 3);
        Edges.due("person 7, want 9, mood 0", x.asks(7, 0, 0), 97);
        Edges.due("years 1", x.asks(3, 5, 0), 1);
        Edges.due("years 99", x.asks(7, 5, 0), 99);
        Edges.due("odds 3", x.asks(3, 4, 0), 30);
        x.terms(2, 0);
        Edges.due("odds 0", x.asks(3, 4, 0), 0);
        x.terms(2, 10);
        Edges.due("odds 10", x.asks(3, 4, 0), 100);
        x.terms(3, 9);
        Edges.due("mood 9", x.asks(3, 0, 0), 903);
        x.terms(0, 9998);
        Edges.due("hour 9,998", x.asks(3, 2, 0), 0);
        x.pass();
        Edges.due("hour 9,999", x.asks(3, 2, 0), 1);
    }

    @Edge(promise = 19, says = "keys: how many one has")
    static void noKeysAndAllKeys() {
        KeyKeepers x = Texts.under("costs keys");
        Edges.due("no KEYS", x.asks(1, 0, 0), 0);
        for (int d = 0; d < 12; d++) {
            x.door(0, 1);
            x.key(1, d, 1);
            Edges.due("KEYS 0 .. " + d, x.asks(1, 0, 0), d + 1);
        }
        Edges.due("another's", x.asks(0, 0, 0), 0);
    }

    @Edge(promise = 19, says = "A CLAUSE HOLDS, if its \"if\" (if it has one) is so, and neither that nor its SUM is BROKEN.")
    static void theLastThatHolds() {
        KeyKeepers x = Texts.under("costs 7; costs 8 if watch=0; costs 9/before; costs 6 if 1/before=1 and watch=2;"
            + "costs 5 if watch=3; costs 4 if 1=2");
        Edges.due("the second", x.asks(0, 0, 0), 8);
        Edges.due("the first", x.asks(0, 0, 1), 7);
        Edges.due("the third", x.asks(0, 1, 1), 9);
        Edges.due("the fourth is BROKEN", x.asks(0, 0, 2), 7);
        Edges.due("the fourth", x.asks(0, 1, 2), 6);
        Edges.due("the fifth", x.asks(0, 1, 3), 5);
        Edges.due("the fifth, though those ahead are BROKEN", x.asks(0, 0, 3), 5);
    }

    @Edge(promise = 19, says = "A WATCH COSTS what the last \"costs\" that HOLDS tells, 0 .. 999 (else the nearest)")
    static void costsHaveLimits() {
        costs("0", 0);
        costs("999", 999);
        costs("1000", 999);
        costs("1000*1000*1000", 999);
        costs("0-1", 0);
        costs("0-1000*1000*1000", 0);
        KeyKeepers x = Texts.under("costs 0-before");
        Edges.due("before 1", x.asks(0, 1, 0), 0);
    }

    @Edge(promise = 19, says = "WANT and 1 without")
    static void costsWithout() {
        KeyKeepers x = Texts.under("gains 77; fines 77; costs 1/0; costs 77 if 1=2; bars if 1=2");
        x.prisoner(9, 0, 1);
        x.prisoner(9, 9, 1);
        for (int before = 0; before < 2; before++) {
            Edges.due("WANT 4", x.asks(0, before, 5), 5);
            Edges.due("WANT 0", x.asks(3, before, 5), 1);
            Edges.due("WANT 9", x.asks(4, before, 5), 10);
        }
    }

    @Edge(promise = 19, says = "to stay out GAINS 0 .. 999, WANT times 3 without")
    static void gainsHaveLimits() {
        String[] sums = {"0", "999", "1000", "0-1", "1000*1000*1000", "1/0", "7 if 1=2"};
        int[] tells = {0, 999, 999, 0, 999, 12, 12};
        for (int i = 0; i < sums.length; i++) {
            Edges.due("gains " + sums[i], Texts.under("gains " + sums[i]).asks(0, 4, 7), tells[i]);
        }
        KeyKeepers x = Texts.under("costs 77; fines 77");
        x.prisoner(9, 0, 1);
        x.prisoner(9, 9, 1);
        Edges.due("WANT 0", x.asks(3, 4, 0), 0);
        Edges.due("WANT 9", x.asks(4, 4, 0), 27);
    }

    @Edge(promise = 19, says = "it FINES 0 .. 999, YEARS without")
    static void finesHaveLimits() {
        String[] sums = {"0", "999", "1000", "0-1", "1000*1000*1000", "1/0", "7 if 1=2"};
        int[] tells = {0, 999, 999, 0, 999, 10, 10};
        for (int i = 0; i < sums.length; i++) {
            Edges.due("fines " + sums[i], Texts.under("fines " + sums[i]).asks(0, 5, 7), tells[i]);
        }
        KeyKeepers x = Texts.under("costs 77; gains 77");
        x.prisoner(1, 0, 1);
        x.prisoner(99, 9, 1);
        Edges.due("YEARS 1", x.asks(3, 5, 0), 1);
        Edges.due("YEARS 99", x.asks(4, 5, 0), 99);
    }

    @Edge(promise = 19, says = "one is BARRED, if \"bars\" HOLDS")
    static void barredOrNot() {
        String[] laws = {"bars", "bars if 1=1", "bars if 1=2", "bars if 1/0=1", "bars; bars if 1=2", "bars if 1=2; bars", "costs 1"};
        int[] barred = {1, 1, 0, 0, 1, 1, 0};
        KeyKeepers y = Texts.under("bars if before=0");
        Edges.due("bars if before=0, before 0", y.asks(0, 2, 0), 1);
        Edges.due("bars if before=0, before 1", y.asks(0, 3, 0), 0);
        for (int i = 0; i < laws.length; i++) {
            KeyKeepers x = Texts.under(laws[i]);
            Edges.due(laws[i] + ", before 0", x.asks(0, 2, 0), barred[i]);
            Edges.due(laws[i] + ", before 1", x.asks(0, 3, 5), barred[i]);
        }
    }

    @Edge(promise = 19, says = "One STAYS OUT, if 10 times what it GAINS is more than ODDS times what it FINES.")
    static void moreThanTheFines() {
        int[] odds = {0, 0, 1, 1, 10, 10, 10, 9, 5, 5};
        int[] gains = {0, 1, 0, 1, 7, 8, 999, 999, 3, 4};
        int[] fines = {0, 999, 1, 9, 7, 7, 999, 999, 6, 7};
        int[] stays = {0, 1, 0, 1, 0, 1, 0, 1, 0, 1};
        for (int i = 0; i < odds.length; i++) {
            KeyKeepers x = Texts.under("gains " + gains[i] + "; fines " + fines[i]);
            x.terms(2, odds[i]);
            Edges.due("asks(0, 6, 0), " + i, x.asks(0, 6, 0), stays[i]);
        }
    }
}
