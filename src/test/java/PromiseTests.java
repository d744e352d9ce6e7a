/** For each promise of the document, by its number: ordinary calls, the edges, wrong inputs. */
public final class PromiseTests {
    private static int wrong = 0;
    private static int asked = 0;
    private static int promise = 0;

    private static void due(String call, int got, int want) {
        asked++;
        if (got != want) {
            wrong++;
            System.out.println("promise " + promise + ": " + call + " answered " + got + ", due is " + want);
        }
    }

    private static void put(KeyKeepers x, String text) {
        due("end of a text", Texts.put(x, text), text.length());
    }

    private static int law(KeyKeepers x, String text) {
        put(x, text);
        return x.law();
    }

    private static int orders(KeyKeepers x, String text) {
        put(x, text);
        return x.orders();
    }

    private static void lawFault(String text, int at) {
        KeyKeepers x = new KeyKeepers();
        due("law() of '" + text + "'", law(x, text), at == -1 ? 0 : -6);
        due("fault() of '" + text + "'", x.fault(), at);
    }

    private static void ordersFault(String text, int at) {
        KeyKeepers x = new KeyKeepers();
        int answer = orders(x, text);
        due("orders() of '" + text + "' can't be read", answer == -6 ? 1 : 0, at == -1 ? 0 : 1);
        due("fault() of '" + text + "'", x.fault(), at);
    }

    /** Places 0 - 1 - 2 - 3 by doors 0, 1, 2 and prisoners 0, 1 in 2, 2 in 3. */
    private static KeyKeepers yard() {
        KeyKeepers x = new KeyKeepers();
        x.door(0, 1);
        x.door(1, 2);
        x.door(2, 3);
        x.prisoner(10, 4, 2);
        x.prisoner(5, 9, 2);
        x.prisoner(20, 0, 3);
        return x;
    }

    private static void newObject() {
        promise = 1;
        KeyKeepers x = new KeyKeepers();
        int[] want = {0, 0, 0, 0, 0, 0, 0, 0, 0, 0, 0, 0, -1, 0, 0, 3, 3, 0};
        for (int k = 0; k < want.length; k++) due("count(" + k + ")", x.count(k), want[k]);
        due("status()", x.status(), 0);
        due("fault()", x.fault(), -1);
        due("stopped()", x.stopped(), -1);
        due("rats()", x.rats(), 0);
        due("NONE", KeyKeepers.NONE, -1);
        KeyKeepers y = new KeyKeepers();
        x.door(1, 2);
        due("count(0) of another object", y.count(0), 0);
    }

    private static void doorsAndWalls() {
        promise = 2;
        KeyKeepers x = new KeyKeepers();
        due("door(3, 3)", x.door(3, 3), -1);
        due("door(-1, 3)", x.door(-1, 3), -1);
        due("door(3, -1)", x.door(3, -1), -1);
        due("door(10, 3)", x.door(10, 3), -1);
        due("door(3, 10)", x.door(3, 10), -1);
        for (int d = 0; d < 12; d++) due("door(0, 9)", x.door(d % 2 * 9, 9 - d % 2 * 9), d);
        due("door 13", x.door(1, 2), -5);
        due("door 13, wrong too", x.door(2, 2), -1);
        due("count(0)", x.count(0), 12);
        promise = 3;
        due("wall(11, 1)", x.wall(11, 1), 0);
        due("wall(11, 1)", x.wall(11, 1), 1);
        due("wall(11, 0)", x.wall(11, 0), 1);
        due("wall(11, 0)", x.wall(11, 0), 0);
        due("wall(12, 1)", x.wall(12, 1), -2);
        due("wall(-1, 1)", x.wall(-1, 1), -2);
        due("wall(-1, 2)", x.wall(-1, 2), -1);
        due("wall(0, -1)", x.wall(0, -1), -1);
    }

    private static void people() {
        promise = 4;
        KeyKeepers x = new KeyKeepers();
        int[][] bad = {{0, 0, 1}, {100, 0, 1}, {1, -1, 1}, {1, 10, 1}, {1, 0, 0}, {1, 0, 10}, {1, 0, -1}};
        for (int[] b : bad) due("prisoner that can't be", x.prisoner(b[0], b[1], b[2]), -1);
        due("prisoner(1, 0, 1)", x.prisoner(1, 0, 1), 0);
        due("prisoner(99, 9, 9)", x.prisoner(99, 9, 9), 1);
        for (int p = 2; p < 8; p++) due("prisoner(7, 7, 7)", x.prisoner(7, 7, 7), p);
        due("prisoner 9", x.prisoner(7, 7, 7), -5);
        due("prisoner 9, wrong too", x.prisoner(0, 7, 7), -1);
        promise = 5;
        int[] want = {99, 9, 9, 0, 0, 0};
        for (int k = 0; k < 6; k++) due("of(1, " + k + ")", x.of(1, k), want[k]);
        due("of(1, 6)", x.of(1, 6), -1);
        due("of(1, -1)", x.of(1, -1), -1);
        due("of(8, 0)", x.of(8, 0), -1);
        due("of(-1, 0)", x.of(-1, 0), -1);
        due("status() is not of's", x.status(), -1);
        promise = 6;
        for (int d = 0; d < 12; d++) x.door(0, 1);
        due("key(1, 11, 1)", x.key(1, 11, 1), 0);
        due("key(1, 0, 1)", x.key(1, 0, 1), 0);
        due("key(1, 11, 1)", x.key(1, 11, 1), 1);
        due("of(1, 3)", x.of(1, 3), 2049);
        due("key(1, 11, 0)", x.key(1, 11, 0), 1);
        due("of(1, 3)", x.of(1, 3), 1);
        due("key(8, 0, 1)", x.key(8, 0, 1), -2);
        due("key(0, 12, 1)", x.key(0, 12, 1), -2);
        due("key(-1, 0, 1)", x.key(-1, 0, 1), -2);
        due("key(0, -1, 1)", x.key(0, -1, 1), -2);
        due("key(8, 12, 2)", x.key(8, 12, 2), -1);
        promise = 7;
        due("trust(0, 7, 1)", x.trust(0, 7, 1), 0);
        due("trust(0, 1, 1)", x.trust(0, 1, 1), 0);
        due("trust(0, 7, 0)", x.trust(0, 7, 0), 1);
        due("trust(7, 0, 0)", x.trust(7, 0, 0), 0);
        due("of(0, 4)", x.of(0, 4), 2);
        due("of(1, 4)", x.of(1, 4), 0);
        due("trust(3, 3, 1)", x.trust(3, 3, 1), -1);
        due("trust(9, 9, 1)", x.trust(9, 9, 1), -1);
        due("trust(0, 8, 1)", x.trust(0, 8, 1), -2);
        due("trust(-1, 0, 1)", x.trust(-1, 0, 1), -2);
        due("trust(0, 8, 3)", x.trust(0, 8, 3), -1);
        promise = 8;
        due("vote(7, 1)", x.vote(7, 1), 0);
        due("vote(7, 1)", x.vote(7, 1), 1);
        due("of(7, 5)", x.of(7, 5), 1);
        due("of(6, 5)", x.of(6, 5), 0);
        due("vote(7, 0)", x.vote(7, 0), 1);
        due("vote(8, 1)", x.vote(8, 1), -2);
        due("vote(8, -1)", x.vote(8, -1), -1);
    }

    private static void theTerms() {
        promise = 9;
        KeyKeepers x = new KeyKeepers();
        int[] least = {0, 1, 0, 0};
        int[] most = {9999, 6, 10, 9};
        int[] first = {0, 3, 3, 0};
        for (int k = 0; k < 4; k++) {
            due("terms below", x.terms(k, least[k] - 1), -1);
            due("terms above", x.terms(k, most[k] + 1), -1);
            due("terms most", x.terms(k, most[k]), first[k]);
            due("count", x.count(14 + k), most[k]);
            due("terms least", x.terms(k, least[k]), most[k]);
        }
        due("terms(-1, 1)", x.terms(-1, 1), -1);
        due("terms(4, 1)", x.terms(4, 1), -1);
    }

    private static void tape() {
        promise = 10;
        KeyKeepers x = new KeyKeepers();
        for (int i = 1; i <= 20; i++) due("feed", x.feed(0, 0, 0, 0, 0), 20 * i);
        due("feed beyond 400", x.feed(0, 0, 0, 0, 0), -1);
        due("count(6)", x.count(6), 400);
        promise = 11;
        due("end(401)", x.end(401), -1);
        due("end(-1)", x.end(-1), -1);
        due("end(400)", x.end(400), 400);
        due("end(381)", x.end(381), 381);
        promise = 10;
        due("feed to 401", x.feed(0, 0, 0, 0, 0), -1);
        promise = 11;
        due("end(380)", x.end(380), 380);
        due("end(381)", x.end(381), -1);
        promise = 10;
        due("feed to 400", x.feed(0, 0, 0, 0, 0), 400);
        due("end(0)", x.end(0), 0);
        due("count(7), feed is not REFUSED", x.count(7), 0);
        // the highest byte is first: 255 years can't be, 1 can; a byte is never below 0
        due("feed", x.feed(0x01020304, 0x0506FFFF, 0xFF630909, 0, 0), 20);
        due("end(12)", x.end(12), 12);
        promise = 12;
        due("row()", x.row(), 3);
        promise = 13;
        due("rats()", x.rats(), 1);
        promise = 12;
        due("of(0, 1)", x.of(0, 1), 2);
        due("of(1, 0)", x.of(1, 0), 4);
        due("of(1, 2)", x.of(1, 2), 6);
        due("of(2, 0)", x.of(2, 0), 99);
        due("count(6)", x.count(6), 0);
        due("row() of an empty tape", x.row(), -6);
        promise = 13;
        due("rats() stay", x.rats(), 1);
        promise = 12;
        put(x, Texts.many("\1\1\1", 6) + "\1\1");
        due("row() with room for five", x.row(), 5);
        promise = 13;
        due("rats()", x.rats(), 2);
        put(x, "\1\1\1");
        due("row() without room", x.row(), 0);
        due("rats()", x.rats(), 1);
        put(x, "\1");
        due("row() of one byte", x.row(), 0);
        due("status()", x.status(), 0);
    }

    private static void lawTexts() {
        promise = 14;
        KeyKeepers x = new KeyKeepers();
        due("law() of an empty tape", x.law(), -6);
        due("fault()", x.fault(), 0);
        due("law() of blanks", law(x, "    "), -6);
        due("fault()", x.fault(), 4);
        for (int k = 0; k < 6; k++) due("law()", law(x, "costs " + k), k);
        promise = 16;
        due("fault() of a good law", x.fault(), -1);
        law(x, "costs");
        due("fault() is of a text that was read", x.fault(), -1);
        promise = 14;
        put(x, "nonsense");
        due("law 7", x.law(), -5);
        due("the tape is empty then", x.count(6), 0);
        due("status()", x.status(), -5);
        due("count(4)", x.count(4), 6);
        x.force(5);
        x.prisoner(1, 8, 1);
        due("asks", x.asks(0, 0, 0), 5);
        promise = 16;
        lawFault("costs 1;", 8);
        lawFault("costs 1 ; ", 10);
        lawFault(";costs 1", 0);
        lawFault("costs 1 costs 2", 8);
        lawFault("costs1if2<3and4=4", -1);
        lawFault("Costs 1", 0);
        lawFault("costs 1000", -1);
        lawFault("costs 0001000", -1);
        lawFault("costs 1001", 6);
        lawFault("costs 99999999999999999999", 6);
        lawFault("costs -1", 6);
        lawFault("costs 1 + + 2", 10);
        lawFault("costs 1\t", 7);
        for (String word : "place bread inside done found holds by of to or and not if times costs go".split(" ")) {
            lawFault("costs " + word, 6);
        }
        for (String word : "person years want keys watch before others hour odds mood".split(" ")) {
            lawFault("costs " + word, -1);
            lawFault("costs " + word + "s", 6);
        }
        lawFault(Texts.many(";", 400), 0);
        lawFault("bars" + Texts.many(";", 396), 5);
        lawFault("costs " + Texts.many(" ", 394), 400);
        lawFault("costs " + Texts.many("9", 394), 6);
        lawFault("bars", -1);
        lawFault("bars if 1", 9);
        lawFault("bars if 1 = 2 = 3", 14);
        lawFault("bars if (1 = 2", 14);
        lawFault("bars if (1) = 2", 10);
        lawFault("bars if [1 = 2]", 11);
        lawFault("bars if not", 11);
        lawFault("bars if not not not 1 = 2 or not (2 = 3 and 1 < 2)", -1);
        lawFault("bars times 2", 5);
        lawFault("bars if 1 = 2 if 1 = 2", 14);
        lawFault("inspect", 0);
        lawFault("bars if 1 = 2 xor 1 = 2", 14);
        lawFault(Texts.many("bars;", 11) + "bars", -1);
        lawFault(Texts.many("bars;", 12) + "bars", 60);
        lawFault(Texts.many("bars;", 12), 60);
        lawFault(Texts.many("bars;", 12) + "  ?", 62);
        lawFault("costs " + Texts.many("1+", 49) + "1", -1);
        lawFault("costs " + Texts.many("1+", 50) + "1", 106);
        lawFault("costs " + Texts.many("1+", 49) + "want;bars if [1]=2", 118);
        lawFault("costs " + Texts.many("[", 8) + "1" + Texts.many("]", 8), -1);
        lawFault("costs " + Texts.many("[", 9) + "1" + Texts.many("]", 9), 14);
        lawFault("bars if " + Texts.many("(", 5) + Texts.many("[", 3) + "1" + Texts.many("]", 3) + "=1" + Texts.many(")", 5), -1);
        lawFault("bars if " + Texts.many("(", 5) + Texts.many("[", 4) + "1" + Texts.many("]", 4) + "=1" + Texts.many(")", 5), 16);
        lawFault("bars if " + Texts.many("(", 9) + "1=1" + Texts.many(")", 9), 16);
        lawFault("bars if " + Texts.many("(1=1)or", 20) + "(1=1)", -1);
        lawFault("bars if " + Texts.many("not ", 95) + "1 = 1", -1);
    }

    private static void orderTexts() {
        promise = 16;
        ordersFault("wait", -1);
        ordersFault("wait times 20", -1);
        ordersFault("wait times 21", 11);
        ordersFault("wait times 0", 11);
        ordersFault("wait times", 10);
        ordersFault("wait times 1 + 1", 13);
        ordersFault("wait if 1 = 1 times 2", 14);
        ordersFault("wait if place 7 = holds 7 11", -1);
        ordersFault("wait if place 8 = 1", 14);
        ordersFault("wait if place = 1", 14);
        ordersFault("wait if holds 7 12 = 1", 16);
        ordersFault("wait if holds 8 1 = 1", 14);
        ordersFault("wait if holds 1 = 1", 16);
        for (String word : "person years want keys watch before others odds mood by wait".split(" ")) {
            ordersFault("wait if " + word + " = 1", 8);
        }
        for (String word : "hour bread inside done found".split(" ")) {
            ordersFault("wait if " + word + " = 1", -1);
        }
        ordersFault(Texts.many("(", 400), 0);
        ordersFault("go 1", 4);
        ordersFault("go by 1", 3);
        ordersFault("go 1 by", 7);
        ordersFault("give 1 to 1 of 1", 7);
        ordersFault("give 1 of 1", 11);
        ordersFault("give 1 of 1 to", 14);
        ordersFault("inspect 1", 8);
        ordersFault("bars", 0);
        ordersFault("", 0);
        ordersFault("   ", 3);
        ordersFault(Texts.many("wait;", 11) + "wait", -1);
        ordersFault(Texts.many("wait;", 12) + "wait", 60);
        // P, D and TIMES are no PARTS: fifty words with what goes with them
        ordersFault("wait times 2 if 1=" + Texts.many("place 1+", 45) + "1", -1);
        ordersFault("wait if 2=" + Texts.many("done+", 48) + "holds 1 2", -1);
        ordersFault("wait if 2=" + Texts.many("done+", 49) + "holds 1 2", 255);
    }

    private static void runOrders() {
        promise = 15;
        KeyKeepers x = yard();
        x.key(0, 1, 1);
        x.key(0, 2, 1);
        x.trust(0, 1, 1);
        due("orders()", orders(x, "go 0 by 2; go 0 by 2; give 1 of 0 to 1; go 1 by 1; inspect; wait times 3"), 8);
        due("of(0, 2)", x.of(0, 2), 2);
        due("of(0, 3)", x.of(0, 3), 4);
        due("of(1, 2)", x.of(1, 2), 1);
        due("of(1, 3)", x.of(1, 3), 2);
        due("bread", x.count(13), 6);
        due("hour", x.count(14), 3);
        due("count(5)", x.count(5), 8);
        due("orders() that do nothing", orders(x, "wait if 1 = 2; inspect if 1 / 0 = 0"), 0);
        due("orders() by words", orders(x, "wait times 20 if done < 4; inspect if hour = 7 and bread = 6 and inside = 3"
            + " and found = 0 - 1; inspect if found = 3 and place 0 = 2 and place 7 = 0 - 1;"
            + "wait if holds 1 1 = 1 and holds 0 1 = 0 and holds 7 1 = 0-1"), 7);
        due("bread", x.count(13), 18);
        due("orders() with or, and: what stands behind is asked only if it matters",
            orders(x, "wait if 1 = 1 or 1 / 0 = 1; wait if not (1 = 2 and 1 % 0 = 1); wait if 1 / 0 = 1 or 1 = 1"), 2);
        due("hour", x.count(14), 10);
        promise = 17;
        due("stopped()", x.stopped(), -1);
        int kept = x.count(5);
        due("orders() that can't be", orders(x, "wait times 20; inspect; give 1 of 1 to 0"), -3);
        due("stopped()", x.stopped(), 2);
        promise = 15;
        due("status()", x.status(), -3);
        due("fault()", x.fault(), -1);
        due("hour", x.count(14), 10);
        due("bread", x.count(13), 18);
        due("count(5)", x.count(5), kept);
        for (int i = 0; i < 2; i++) due("what was ahead can be undone", x.undo(), 3);
        due("hour", x.count(14), 8);
        due("a broken sum", orders(x, "wait; go 1000 * 1000 * 1000 + 1 by 0"), -3);
        due("stopped()", x.stopped(), 1);
        due("no such door", orders(x, "go 0 by 3"), -3);
        due("stopped()", x.stopped(), 0);
        due("count(8): it is no call", x.count(8), 0);
        promise = 17;
        due("a text that can't be read", orders(x, "go"), -6);
        due("stopped()", x.stopped(), -1);
        promise = 15;
        due("the tape is empty then", x.count(6), 0);
        KeyKeepers y = new KeyKeepers();
        due("inspect without prisoners", orders(y, "wait; inspect"), -3);
        due("hour", y.count(14), 0);
        due("sums go from the left", orders(y, "go 7 - 2 - 5 by 0"), -3);
        y.terms(0, 9990);
        due("hours to the last", orders(y, "wait times 9"), 9);
        due("one more", orders(y, "wait"), -3);
        due("done is 0 at first", orders(yard(), "inspect times 20 if done = 0"), 1);
    }

    private static void force() {
        promise = 18;
        KeyKeepers x = new KeyKeepers();
        due("force(0)", x.force(0), -2);
        law(x, "costs 7");
        law(x, "costs 8");
        due("force(1)", x.force(1), -1);
        due("status()", x.status(), 0);
        due("force(2)", x.force(2), -2);
        due("force(-2)", x.force(-2), -2);
        due("count(12)", x.count(12), 1);
        due("force(0)", x.force(0), 1);
        due("force(-1)", x.force(-1), 0);
        due("count(12)", x.count(12), -1);
    }

    private static KeyKeepers under(String text) {
        KeyKeepers x = yard();
        due("law() of '" + text + "'", law(x, text), 0);
        x.force(0);
        return x;
    }

    private static void asks() {
        promise = 19;
        KeyKeepers x = yard();
        due("cost without a law", x.asks(1, 0, 5), 10);
        due("gain without a law", x.asks(1, 4, 7), 27);
        due("fine without a law", x.asks(1, 5, 7), 5);
        due("barred without a law", x.asks(1, 3, 5), 0);
        due("stays out: 270 > 15", x.asks(1, 6, 0), 1);
        due("watch 6", x.asks(1, 0, 6), -1);
        due("watch 6, barred", x.asks(1, 3, 6), -1);
        due("8 others", x.asks(1, 4, 8), -1);
        due("-1 others", x.asks(1, 6, -1), -1);
        due("what 7", x.asks(1, 7, 0), -1);
        due("what -1", x.asks(1, -1, 0), -1);
        due("no such prisoner", x.asks(3, 0, 0), -1);
        x = under("costs 1000 * 1000; costs 5 - 9 if watch = 1; costs 3 if watch > 3; costs 1 / before if watch = 5");
        due("costs at most 999", x.asks(0, 0, 0), 999);
        due("costs at least 0", x.asks(0, 0, 1), 0);
        due("the last that holds", x.asks(0, 0, 4), 3);
        due("a broken sum does not hold", x.asks(0, 0, 5), 3);
        due("before 1", x.asks(0, 1, 5), 1);
        x = under("costs person * 100 + years + want + keys * 50 + watch; gains others * 10 + watch + before;"
            + "fines hour + odds * 10 + mood * 100; bars if before = 1 and watch > 2 or others > 0 - 1; costs 2 if others = 0");
        x.key(1, 0, 1);
        x.key(1, 2, 1);
        x.terms(0, 7);
        x.terms(2, 5);
        x.terms(3, 2);
        due("words of costs", x.asks(1, 0, 3), 100 + 5 + 9 + 100 + 3);
        due("words of gains", x.asks(1, 4, 3), 28);
        due("gains at least 0", x.asks(1, 4, 0), 0);
        due("words of fines", x.asks(1, 5, 3), 257);
        due("bars, before 0", x.asks(1, 2, 3), 0);
        due("bars, before 1", x.asks(1, 3, 3), 1);
        due("bars, before 1, early", x.asks(1, 3, 2), 0);
        x = under("gains 3; fines 6");
        x.terms(2, 5);
        due("as much is not more", x.asks(0, 6, 0), 0);
        x.terms(2, 4);
        due("more", x.asks(0, 6, 0), 1);
        x = under("costs 0 - 7 / 2 + 20; gains 0 - 7 % 4 + 20; fines [0 - 7] / 2 + 20");
        due("7 / 2", x.asks(0, 0, 0), 17);
        due("7 % 4", x.asks(0, 4, 0), 17);
        due("-7 / 2 is cut towards 0", x.asks(0, 5, 0), 17);
        x = under("costs [0 - 7] % 4 + 20; gains 2 + 3 * 4 - 10 / 5 * 2; fines 1000*1000*1000 - 1000*1000*1000 + 5");
        due("-7 % 4", x.asks(0, 0, 0), 17);
        due("sums from the left, * ahead of +", x.asks(0, 4, 0), 10);
        due("1,000,000,000 can be", x.asks(0, 5, 0), 5);
        x = under("costs 1 + 1000*1000*1000 - 1000*1000*1000; gains 0 - 1 - 1000*1000*1000; fines 1000*1000*1000*1000/1000");
        due("beyond it can't", x.asks(0, 0, 0), 5);
        due("nor below", x.asks(0, 4, 0), 12);
        due("nor times", x.asks(0, 5, 0), 10);
        x = under("bars if 1 % 0 = 0 or 1 = 1; gains 1 if 2 = 2 or 1 / 0 = 1; fines 1 if not 1 = 2 and not (1 = 2 and 1/0 = 1)");
        due("a broken test", x.asks(0, 2, 0), 0);
        due("what stands behind or", x.asks(0, 4, 0), 1);
        due("what stands behind and", x.asks(0, 5, 0), 1);
        x = under("costs 1 if 1 = 1 or 1 = 2 and 1 = 2; gains 1 if not 1 = 2 and 1 = 2; fines 1 if not (1 = 2 and 1 = 2)");
        due("and ahead of or", x.asks(0, 0, 0), 1);
        due("not ahead of and", x.asks(0, 4, 0), 12);
        due("brackets", x.asks(0, 5, 0), 1);
        String deep = Texts.many("1+1*[", 8) + "1+1*1" + Texts.many("]", 8);
        x = under("costs " + deep + "; bars if 10 = " + deep);
        due("as deep as can be", x.asks(0, 0, 0), 10);
        due("as deep as can be", x.asks(0, 2, 0), 1);
        x = under("costs 1 if not not not 1 = 2; gains 1 if not not not not 1 = 2; fines 1 if not not not not not 1 = 2");
        due("three times not", x.asks(0, 0, 0), 1);
        due("four times not", x.asks(0, 4, 0), 12);
        due("five times not", x.asks(0, 5, 0), 1);
    }

    private static void goings() {
        promise = 20;
        KeyKeepers x = yard();
        x.key(0, 1, 1);
        x.key(2, 2, 1);
        due("go(3, 0)", x.go(3, 0), -2);
        due("go(-1, 0)", x.go(-1, 0), -2);
        due("go(0, 3)", x.go(0, 3), -2);
        due("go(0, -1)", x.go(0, -1), -2);
        due("go(0, 0) without a key", x.go(0, 0), -3);
        due("go(1, 1) without trust", x.go(1, 1), -3);
        due("go(2, 1) from elsewhere", x.go(2, 1), -3);
        due("go(2, 2)", x.go(2, 2), 2);
        x.trust(0, 1, 1);
        due("go(1, 1) by trust", x.go(1, 1), 1);
        due("go(1, 1) back: nobody near has the key", x.go(1, 1), -3);
        x.wall(1, 1);
        due("go(0, 1) walled up", x.go(0, 1), -3);
        x.wall(1, 0);
        due("go(0, 1)", x.go(0, 1), 1);
        due("go(1, 1) back by trust", x.go(1, 1), 2);
        promise = 21;
        due("give(1, 0, 1) from afar", x.give(1, 0, 1), -3);
        due("go(0, 1)", x.go(0, 1), 2);
        due("give(1, 0, 2) without trust", x.give(1, 0, 2), -3);
        due("give(1, 0, 0)", x.give(1, 0, 0), -3);
        due("give(0, 0, 1) which one has not", x.give(0, 0, 1), -3);
        due("give(3, 0, 1)", x.give(3, 0, 1), -2);
        due("give(1, 3, 1)", x.give(1, 3, 1), -2);
        due("give(1, 0, 3)", x.give(1, 0, 3), -2);
        due("give(1, -1, 3)", x.give(1, -1, 3), -2);
        due("give(1, 0, 1)", x.give(1, 0, 1), 0);
        due("of(0, 3)", x.of(0, 3), 0);
        due("of(1, 3)", x.of(1, 3), 2);
        x.key(0, 1, 1);
        due("give(1, 0, 1) to one who has one", x.give(1, 0, 1), 0);
        due("of(0, 3)", x.of(0, 3), 0);
        promise = 24;
        due("undo()", x.undo(), 1);
        due("of(0, 3)", x.of(0, 3), 2);
        due("of(1, 3)", x.of(1, 3), 2);
        due("undo() of what was ahead of key()", x.undo(), -3);
        promise = 22;
        due("inspect()", x.inspect(), 3);
        due("bread", x.count(13), 6);
        x.key(1, 0, 1);
        due("go(1, 1)", x.go(1, 1), 1);
        due("go(1, 0)", x.go(1, 0), 0);
        due("inspect()", x.inspect(), 2);
        due("bread", x.count(13), 8);
        due("go(1, 0) in again", x.go(1, 0), 1);
        due("inspect()", x.inspect(), 3);
        due("bread", x.count(13), 14);
        due("inspect() of nobody", new KeyKeepers().inspect(), -3);
        promise = 23;
        due("pass()", x.pass(), 1);
        due("pass()", x.pass(), 2);
        x.terms(0, 9998);
        due("pass()", x.pass(), 9999);
        due("pass()", x.pass(), -3);
        promise = 24;
        due("undo()", x.undo(), 3);
        due("hour", x.count(14), 9998);
        due("undo()", x.undo(), -3);
        for (int i = 0; i < 20; i++) x.inspect();
        due("count(5)", x.count(5), 16);
        due("bread", x.count(13), 14 + 120);
        for (int i = 0; i < 16; i++) due("undo()", x.undo(), 2);
        due("undo() 17", x.undo(), -3);
        due("bread", x.count(13), 14 + 24);
        x.inspect();
        due("prisoner() REFUSED", x.prisoner(0, 0, 0), -1);
        due("key() REFUSED", x.key(0, 0, 5), -1);
        due("terms() REFUSED", x.terms(9, 0), -1);
        due("row() REFUSED", x.row(), -6);
        x.wall(0, 0);
        x.trust(0, 1, 1);
        x.vote(0, 1);
        x.door(1, 2);
        due("can still be undone", x.count(5), 1);
        put(x, "\0\0\0");
        x.row();
        due("behind row()", x.undo(), -3);
        x.inspect();
        x.prisoner(1, 1, 1);
        due("behind prisoner()", x.undo(), -3);
        x.inspect();
        x.terms(3, 1);
        due("behind terms()", x.undo(), -3);
    }

    private static void waysOut() {
        promise = 25;
        KeyKeepers x = yard();
        x.key(0, 1, 1);
        due("opens(0, 1)", x.opens(0, 1), 1);
        due("opens(1, 1)", x.opens(1, 1), 0);
        x.trust(1, 0, 1);
        due("trust the other way", x.opens(1, 1), 0);
        x.trust(0, 1, 1);
        due("opens(1, 1)", x.opens(1, 1), 1);
        x.trust(0, 2, 1);
        due("opens(2, 1) from afar", x.opens(2, 1), 0);
        x.wall(1, 1);
        due("opens(0, 1) walled up", x.opens(0, 1), 0);
        x.wall(1, 0);
        due("opens(3, 0)", x.opens(3, 0), -1);
        due("opens(0, 3)", x.opens(0, 3), -1);
        due("opens(-1, -1)", x.opens(-1, -1), -1);
        promise = 26;
        due("way(0)", x.way(0), -1);
        x.key(2, 0, 1);
        due("way(0) without trust", x.way(0), -1);
        x.trust(2, 0, 1);
        due("way(0) by one who is afar", x.way(0), 2);
        due("way(1): trust is not handed on", x.way(1), -1);
        due("way(3)", x.way(3), -1);
        due("way(-1)", x.way(-1), -1);
        x.door(0, 2);
        x.key(0, 3, 1);
        due("way(0) the short way", x.way(0), 1);
        due("way(1) by 0's key", x.way(1), 1);
        promise = 27;
        due("cut(0, 0)", x.cut(0, 0), 2);
        due("cut(0, 1): doors 0, 3 rather than 1, 3", x.cut(0, 1), 9);
        due("cut(1, 1)", x.cut(1, 1), 8);
        due("cut(2, 0)", x.cut(2, 0), 0);
        due("cut(0, 2)", x.cut(0, 2), -1);
        due("cut(0, -1)", x.cut(0, -1), -1);
        due("cut(3, 0)", x.cut(3, 0), -1);
        promise = 28;
        due("together()", x.together(), 3);
        x.wall(3, 1);
        due("together()", x.together(), 1);
        promise = 27;
        due("cut(0, 1) beside a wall", x.cut(0, 1), 1);
        x.wall(3, 0);
        due("go(0, 3)", x.go(0, 3), 0);
        due("cut(0, 0) outside", x.cut(0, 0), -1);
        promise = 26;
        due("way(0) outside", x.way(0), 0);
        promise = 28;
        due("together(): who is inside", x.together(), 2);
        promise = 27;
        KeyKeepers y = new KeyKeepers();
        y.prisoner(1, 1, 9);
        for (int d = 0; d < 12; d++) {
            y.door(d < 6 ? 9 : 5, d < 6 ? 5 : 0);
            y.key(0, d, 1);
        }
        due("six doors beside one another", y.cut(0, 0), 6);
        due("the lowest", y.cut(0, 1), 63);
        y.wall(11, 1);
        due("five are fewer", y.cut(0, 1), 63 << 6 & ~(1 << 11));
    }

    private static void rotas() {
        promise = 29;
        KeyKeepers x = new KeyKeepers();
        x.prisoner(1, 5, 1);
        due("one prisoner, MOST 3", x.rota(1), 0);
        due("rota(0)", x.rota(0), -1);
        due("rota(2)", x.rota(2), -1);
        x.terms(1, 6);
        due("MOST 6", x.rota(1), 1);
        due("rota(0)", x.rota(0), 36);
        x.prisoner(1, 5, 1);
        x.terms(1, 3);
        due("two, three times each", x.rota(1), 20);
        due("rota(0)", x.rota(0), 36);
        int[] row = {0, 0, 0, 1, 1, 1};
        for (int k = 0; k < 6; k++) due("rota(" + (2 + k) + ")", x.rota(2 + k), row[k]);
        due("rota(8)", x.rota(8), -1);
        due("rota(-1)", x.rota(-1), -1);
        law(x, "bars if before = 1");
        x.force(0);
        due("never twice in a row", x.rota(1), 2);
        due("rota(3)", x.rota(3), 1);
        law(x, "costs 10; costs 1 if person = watch % 2; costs 0 if before = 1; bars if watch = 0 and person = 0");
        x.force(1);
        // 1 must begin: 10, then 0 before, 1 as it is 0's, 0, 0, and 1 as it is 1's
        due("rota(1)", x.rota(1), 10);
        due("rota(0)", x.rota(0), 12);
        int[] turns = {1, 1, 0, 0, 0, 1};
        for (int k = 0; k < 6; k++) due("rota(" + (2 + k) + ")", x.rota(2 + k), turns[k]);
        for (int p = 2; p < 8; p++) x.prisoner(1, p, 1);
        x.force(-1);
        x.terms(1, 6);
        due("all rows", x.rota(1), 262144);
        x.terms(1, 1);
        due("all rows of unlike ones", x.rota(1), 20160);
        due("the six cheapest: wants 2 3 4 5 5 5", x.rota(0), 3 + 4 + 5 + 6 + 6 + 6);
        int[] cheap = {0, 1, 2, 3, 4, 5};
        for (int k = 0; k < 6; k++) due("rota(" + (2 + k) + ")", x.rota(2 + k), cheap[k]);
        x.terms(1, 2);
        // all unlike, one pair, two pairs, three pairs
        due("MOST 2", x.rota(1), 20160 + 15 * 8 * 840 + 28 * 90 * 30 + 56 * 90);
        due("no prisoners", new KeyKeepers().rota(1), 0);
    }

    private static void resting() {
        promise = 30;
        KeyKeepers x = yard();
        due("rests(0)", x.rests(0), 3);
        due("rests(1)", x.rests(1), 2);
        due("rests(2)", x.rests(2), -1);
        due("rests(-1)", x.rests(-1), -1);
        x = under("fines 1; gains 0; gains 9 if person = 0 and others = 0; gains 9 if person = 1 and others = 1");
        due("never at rest", x.rests(0), -1);
        due("never at rest", x.rests(1), -1);
        x = under("fines 1; gains 0; gains 9 if person = 2; gains 9 if person = 1 and others > 0; gains 9 if person = 0 and others > 1");
        due("who would when others do", x.rests(0), 7);
        due("in rounds: 2, then 1, then 0, then nobody", x.rests(1), 4);
        x = under("fines 1; gains 0; gains 9 if others = person");
        due("by numbers, not all at once: 0, then 1, then 2; 0, 1 and 2 again are not so", x.rests(0), -1);
    }

    private static void keepers() {
        promise = 31;
        KeyKeepers x = yard();
        due("parted(0, 0)", x.parted(0, 0), -1);
        due("parted(7, 0)", x.parted(7, 0), -1);
        due("parted(4, 0): fewer doors", x.parted(4, 0), -1);
        due("parted(1, 0): one keeps all", x.parted(1, 0), 0);
        due("parted(1, 1)", x.parted(1, 1), -1);
        due("parted(2, 0)", x.parted(2, 0), 6);
        due("parted(2, 1)", x.parted(2, 1), 0);
        due("parted(2, 2)", x.parted(2, 2), 1);
        due("parted(2, 3)", x.parted(2, 3), -1);
        due("parted(2, -1)", x.parted(2, -1), -1);
        x.trust(0, 1, 1);
        due("trust of one only", x.parted(2, 0), 6);
        x.trust(1, 0, 1);
        due("each other", x.parted(2, 0), 4);
        due("parted(2, 2)", x.parted(2, 2), 2);
        x.trust(0, 2, 1);
        x.trust(2, 0, 1);
        due("parted(2, 0)", x.parted(2, 0), 2);
        due("parted(2, 1)", x.parted(2, 1), 1);
        due("parted(2, 2)", x.parted(2, 2), 2);
        due("parted(3, 0)", x.parted(3, 0), 12);
        due("parted(3, 1)", x.parted(3, 1), 0);
        due("parted(3, 2)", x.parted(3, 2), 1);
        due("parted(3, 3)", x.parted(3, 3), 2);
        KeyKeepers y = new KeyKeepers();
        for (int d = 0; d < 6; d++) y.door(1, 2);
        due("nobody", y.parted(6, 0), 0);
        due("nobody", y.parted(6, 1), -1);
        y.prisoner(1, 1, 1);
        y.prisoner(1, 1, 1);
        due("two", y.parted(6, 0), 62);
        due("two", y.parted(6, 6), 1);
        y.trust(0, 1, 1);
        y.trust(1, 0, 1);
        due("two who trust", y.parted(6, 0), 0);
        due("two who trust", y.parted(6, 6), -1);
        for (int p = 2; p < 8; p++) y.prisoner(1, 1, 1);
        due("eight", y.parted(6, 0), 262144 - 8 - 62);
    }

    private static void counting() {
        promise = 32;
        KeyKeepers x = yard();
        due("tally(8, 0)", x.tally(8, 0), -1);
        due("tally(-1, 0)", x.tally(-1, 0), -1);
        due("tally(3, 3)", x.tally(3, 3), -1);
        due("tally(3, -1)", x.tally(3, -1), -1);
        due("tally(3, 1)", x.tally(3, 1), 1);
        promise = 34;
        due("out(-1)", x.out(-1), 4);
        int[] sets = {1, 2, 5, 6};
        for (int i = 0; i < 4; i++) due("out(" + i + ")", x.out(i), sets[i]);
        due("out(4)", x.out(4), -1);
        due("out(-2)", x.out(-2), -1);
        promise = 35;
        due("next(0)", x.next(0), 1);
        due("next(1)", x.next(1), 2);
        due("next(2)", x.next(2), -1);
        due("next(-1)", x.next(-1), -1);
        promise = 32;
        due("tally(1, 0)", x.tally(1, 0), 2);
        promise = 34;
        due("out(-1)", x.out(-1), 2);
        due("out(1)", x.out(1), 5);
        promise = 35;
        due("next(0)", x.next(0), 4);
        due("next(1)", x.next(1), 1);
        promise = 32;
        due("tally(3, 0)", x.tally(3, 0), 3);
        promise = 34;
        due("out(-1): it can't be", x.out(-1), 0);
        due("out(0)", x.out(0), -1);
        promise = 35;
        due("next(0)", x.next(0), -1);
        promise = 32;
        for (int i = 4; i <= 8; i++) due("tally(0, 0)", x.tally(0, 0), i);
        due("tally 9", x.tally(0, 0), -5);
        due("tally 9, wrong too", x.tally(0, 1), -1);
        promise = 33;
        due("forget()", x.forget(), 8);
        due("forget()", x.forget(), 0);
        due("status() is not forget's", x.status(), -1);
        due("count(3)", x.count(3), 0);
        promise = 34;
        due("out(-1)", x.out(-1), 8);
        due("out(7)", x.out(7), 7);
        promise = 35;
        // three: 1 3 3 1; two: 2 4 2; one: 4 4
        due("next(0)", x.next(0), 7);
        due("next(1)", x.next(1), 3);
        due("next(0) of nobody", new KeyKeepers().next(0), -1);
    }

    private static void voting() {
        promise = 36;
        KeyKeepers x = yard();
        law(x, "costs 5");
        law(x, "costs 30 if watch = 0; costs 0 if watch > 0; costs 9 if before = 1");
        due("voted(-1)", x.voted(-1), 0);
        due("voted(0): 5 for 5, 10, 1", x.voted(0), 2);
        due("voted(1): 30 for 30, 60, 6", x.voted(1), 2);
        due("voted(2)", x.voted(2), -1);
        due("voted(-2)", x.voted(-2), -1);
        x.force(0);
        due("voted(-1)", x.voted(-1), 4);
        due("voted(0)", x.voted(0), 0);
        due("voted(1): as much", x.voted(1), 0);
        promise = 37;
        x = yard();
        due("sure(0, 0)", x.sure(0, 0), 0);
        due("sure(-1, 0)", x.sure(-1, 0), -1);
        due("sure(9, 1)", x.sure(9, 1), -1);
        due("sure(1, 2)", x.sure(1, 2), -1);
        // 0 : 3, two of them in place 2, one in 3
        due("sure(1, 0)", x.sure(1, 0), 0);
        due("sure(2, 1)", x.sure(2, 1), 4);
        due("sure(8, 1)", x.sure(8, 1), 4);
        x.prisoner(1, 1, 1);
        // 0 : 4, two turned over: as many
        due("as many: none has", x.sure(2, 1), 4);
        x.vote(0, 1);
        x.vote(3, 1);
        due("as many as told, all places", x.sure(1, 1), 14);
        due("as many as told, how many", x.sure(1, 0), 3);
        due("as many as told, nothing forged", x.sure(0, 0), 0);
        x.vote(1, 1);
        // 3 : 1, places 1: 1, 2: 1 1, 3: 0
        due("3 : 1", x.sure(1, 1), 6);
        x.key(3, 0, 1);
        x.go(3, 0);
        due("votes outside", x.sure(1, 1), 5);
    }

    private static void nights() {
        promise = 38;
        KeyKeepers x = new KeyKeepers();
        due("nights(5, 1)", x.nights(5, 1), -3);
        x.prisoner(1, 1, 1);
        due("nights(5, 1) without doors", x.nights(5, 1), -3);
        due("nights(-1, 1)", x.nights(-1, 1), -1);
        due("nights(1000001, 1)", x.nights(1000001, 1), -1);
        due("nights(0, 0)", x.nights(0, 0), -1);
        due("nights(0, 101)", x.nights(0, 101), -1);
        promise = 39;
        due("drawn(0, 0) ahead of any", x.drawn(0, 0), -1);
        due("drawn(0, 1) ahead of any", x.drawn(0, 1), -1);
        promise = 38;
        x.door(1, 0);
        x.key(0, 0, 1);
        x.terms(2, 10);
        // always inspected; goes out and in: 0, 2, 0 breads
        due("nights(7, 3)", x.nights(7, 3), 3);
        promise = 39;
        due("drawn(0, 0)", x.drawn(0, 0), 0);
        due("drawn(9, 1)", x.drawn(9, 1), 2);
        due("drawn(1, 0)", x.drawn(1, 0), -1);
        due("drawn(-1, 0)", x.drawn(-1, 0), -1);
        due("drawn(0, 2)", x.drawn(0, 2), -1);
        due("on paper", x.of(0, 2), 1);
        due("on paper", x.count(13), 0);
        due("on paper", x.count(14), 0);
        due("on paper", x.count(5), 0);
        x.prisoner(1, 1, 1);
        due("drawn(1, 0) of a later one", x.drawn(1, 0), -1);
        due("drawn(0, 0) stays", x.drawn(0, 0), 0);
        due("nights REFUSED", x.nights(0, 0), -1);
        due("drawn(0, 0) stays", x.drawn(0, 0), 0);
        promise = 38;
        x.terms(0, 9997);
        due("hours end", x.nights(7, 100), 2);
        x.terms(0, 9999);
        due("no hour", x.nights(7, 100), 0);
        promise = 39;
        due("drawn(0, 0)", x.drawn(0, 0), 1);
        due("drawn(0, 1)", x.drawn(0, 1), 0);
        promise = 38;
        x.terms(0, 0);
        x.terms(2, 0);
        due("never inspected", x.nights(1000000, 100), 0);
        x.terms(2, 10);
        // s: 12345, 628841, 621889; the last draw is 9
        due("a draw below ODDS", x.nights(0, 1), 1);
        x.terms(2, 9);
        due("a draw of ODDS", x.nights(0, 1), 0);
    }

    private static void images() {
        promise = 40;
        KeyKeepers x = yard();
        due("image(2)", x.image(2), -1);
        due("image(-1)", x.image(-1), -1);
        promise = 41;
        due("back(0)", x.back(0), -2);
        due("back(2)", x.back(2), -1);
        due("back(-1)", x.back(-1), -1);
        promise = 40;
        law(x, "costs 3");
        x.force(0);
        x.key(0, 0, 1);
        x.trust(0, 1, 1);
        x.vote(1, 1);
        x.wall(2, 1);
        x.tally(3, 1);
        x.terms(1, 5);
        x.terms(3, 8);
        x.inspect();
        x.pass();
        due("image(0)", x.image(0), 0);
        due("count(5) stays", x.count(5), 2);
        int[] ahead = new int[18];
        for (int k = 0; k < 18; k++) ahead[k] = x.count(k);
        x.door(3, 4);
        x.wall(2, 0);
        x.prisoner(9, 9, 9);
        x.key(0, 0, 0);
        x.key(3, 0, 1);
        x.trust(0, 1, 0);
        x.trust(3, 1, 1);
        x.vote(1, 0);
        x.vote(3, 1);
        x.terms(0, 77);
        x.terms(1, 2);
        x.terms(2, 2);
        x.terms(3, 2);
        x.inspect();
        x.forget();
        x.tally(8, 0);
        x.tally(8, 0);
        law(x, "costs 4");
        x.force(1);
        orders(x, "go 0 by 0");
        law(x, "costs costs");
        put(x, "\1\1");
        x.row();
        x.nights(1, 1);
        put(x, "abc");
        due("image(1)", x.image(1), 0);
        promise = 41;
        due("back(0)", x.back(0), 0);
        for (int k = 0; k < 18; k++) {
            if (k != 5 && k != 6 && (k < 7 || k > 11)) due("count(" + k + ")", x.count(k), ahead[k]);
        }
        due("nothing can be undone", x.undo(), -3);
        due("the tape stays", x.count(6), 3);
        due("the fault stays", x.fault(), 6);
        due("where orders stopped stays", x.stopped(), 0);
        due("rats stay", x.rats(), 1);
        due("nights stay", x.drawn(3, 0), 9);
        due("refusals stay", x.count(9), 2);
        due("wall", x.wall(2, 1), 1);
        due("key", x.of(0, 3), 1);
        due("trust", x.of(0, 4), 2);
        due("vote", x.of(1, 5), 1);
        due("prisoner", x.of(3, 0), -1);
        due("law", x.asks(0, 0, 0), 3);
        due("counts", x.out(-1), 4);
        due("another prisoner begins anew", x.prisoner(2, 2, 2), 3);
        for (int k = 3; k < 6; k++) due("of(3, " + k + ")", x.of(3, k), 0);
        due("another law", law(x, "costs 6"), 1);
        due("another door", x.door(0, 9), 3);
        due("is not walled up", x.wall(3, 0), 0);
        due("back(1)", x.back(1), 0);
        due("of(3, 0)", x.of(3, 0), 9);
        due("of(3, 1)", x.of(3, 1), 9);
        due("of(3, 2)", x.of(3, 2), 9);
        x.key(2, 3, 1);
        due("door 3 of image 1", x.go(2, 3), 4);
        due("law 1 of image 1", x.asks(0, 0, 0), 4);
        due("of(3, 5)", x.of(3, 5), 1);
        due("of(3, 3)", x.of(3, 3), 1);
        due("back(0) again", x.back(0), 0);
        due("law", x.asks(0, 0, 0), 3);
        due("count(1)", x.count(1), 3);
        emptyImage();
    }

    private static void emptyImage() {
        KeyKeepers x = new KeyKeepers();
        x.image(0);
        x.door(0, 4);
        x.prisoner(3, 2, 4);
        x.key(0, 0, 1);
        law(x, "costs 44");
        x.force(0);
        x.image(1);
        due("back(0)", x.back(0), 0);
        due("way(0)", x.way(0), -1);
        due("voted(0)", x.voted(0), -1);
        x.door(5, 6);
        x.prisoner(8, 7, 5);
        law(x, "costs 55");
        due("back(1)", x.back(1), 0);
        due("of(0, 0)", x.of(0, 0), 3);
        due("of(0, 1)", x.of(0, 1), 2);
        due("asks(0, 0, 0)", x.asks(0, 0, 0), 44);
        due("go(0, 0)", x.go(0, 0), 0);
        due("back(1)", x.back(1), 0);
        due("of(0, 2)", x.of(0, 2), 4);
    }

    private static void countsAndStatus() {
        promise = 42;
        KeyKeepers x = yard();
        x.key(0, 1, 1);
        x.key(0, 0, 1);
        x.go(0, 1);
        x.go(0, 0);
        due("count(2)", x.count(2), 2);
        due("count(-1)", x.count(-1), -1);
        due("count(18)", x.count(18), -1);
        x.door(0, 0);
        x.wall(9, 0);
        x.vote(9, 0);
        x.give(0, 0, 1);
        x.go(2, 0);
        x.back(3);
        for (int k = 0; k < 12; k++) x.door(1, 2);
        x.law();
        x.orders();
        x.row();
        x.row();
        x.of(9, 9);
        x.asks(9, 9, 9);
        x.end(-1);
        x.rota(9);
        due("count(7)", x.count(7), 2);
        due("count(8)", x.count(8), 2);
        due("count(9)", x.count(9), 2);
        due("count(10)", x.count(10), 3);
        due("count(11)", x.count(11), 4);
        promise = 43;
        due("status()", x.status(), -6);
        x.wall(0, 0);
        due("status()", x.status(), 0);
        x.undo();
        due("status()", x.status(), 0);
        x.terms(7, 0);
        due("status()", x.status(), -1);
        x.feed(0, 0, 0, 0, 0);
        x.end(0);
        x.forget();
        x.opens(0, 0);
        x.sure(1, 1);
        x.fault();
        x.count(3);
        due("status() is of those calls only", x.status(), -1);
        x.nights(1, 1);
        due("status()", x.status(), 0);
        x.give(0, 0, 9);
        due("status()", x.status(), -2);
        x.image(0);
        due("status()", x.status(), 0);
        x.prisoner(0, 0, 0);
        due("status()", x.status(), -1);
        x.back(0);
        due("status()", x.status(), 0);
        x.tally(-1, 0);
        due("status()", x.status(), -1);
        x.tally(0, 0);
        due("status()", x.status(), 0);
        x.force(4);
        due("status()", x.status(), -2);
        x.force(-1);
        due("status(): NONE was in force, that is no refusal", x.status(), 0);
    }

    public static void main(String[] args) {
        newObject();
        doorsAndWalls();
        people();
        theTerms();
        tape();
        lawTexts();
        orderTexts();
        runOrders();
        force();
        asks();
        goings();
        waysOut();
        rotas();
        resting();
        keepers();
        counting();
        voting();
        nights();
        images();
        countsAndStatus();
        System.out.println(asked + " calls asked, " + wrong + " answers are not as due");
        if (wrong != 0) System.exit(1);
    }
}
