/** Prisoners who guard each other. What each call promises stands in the document, DOC.md. */
public final class KeyKeepers {
    public static final int NONE = -1;

    private static final int PLACE_ROOM = 10;
    private static final int DOOR_ROOM = 12;
    private static final int PEOPLE_ROOM = 8;
    private static final int COUNT_ROOM = 8;
    private static final int LAW_ROOM = 6;
    private static final int IMAGE_ROOM = 2;
    private static final int UNDO_ROOM = 16;
    private static final int TAPE_ROOM = 400;
    private static final int CLAUSE_ROOM = 12;
    private static final int PART_ROOM = 50;
    private static final int BRACKET_ROOM = 8;
    private static final int SUM_ROOM = 3;
    private static final int TEST_PART = SUM_ROOM;
    private static final int MARK_ROOM = SUM_ROOM + 2;
    private static final int STACK_ROOM = 32;

    private static final int OUTSIDE = 0;
    private static final int MOST_YEARS = 99;
    private static final int MOST_WANT = 9;
    private static final int MOST_BREAD = 99999;
    private static final int MOST_TOLD = 999;
    private static final int MOST_VALUE = 1000000000;
    private static final int MOST_NUMBER = 1000;
    private static final int MOST_TIMES = 20;
    private static final int MOST_ROUNDS = 50;
    private static final int MOST_PARTED = 6;
    private static final int MOST_SEED = 1000000;
    private static final int MOST_NIGHTS = 100;
    private static final int WATCHES = 6;

    private static final int HOUR = 0;
    private static final int MOST = 1;
    private static final int ODDS = 2;
    private static final int MOOD = 3;
    private static final int LAST_HOUR = 9999;
    private static final int[] TERM_LEAST = {0, 1, 0, 0};
    private static final int[] TERM_MOST = {LAST_HOUR, 6, 10, 9};

    private static final int BAD_NUMBER = -1;
    private static final int NO_SUCH = -2;
    private static final int CANNOT_BE = -3;
    private static final int NO_ROOM = -5;
    private static final int BAD_TEXT = -6;

    private static final int GO = 0;
    private static final int GIVE = 1;
    private static final int INSPECT = 2;
    private static final int PASS = 3;

    private static final int COSTS = 0;
    private static final int GAINS = 1;
    private static final int FINES = 2;
    private static final int BARS = 3;

    private static final int NUMBER_OP = 0;
    private static final int WORD_OP = 1;
    private static final int PLACE_OP = 2;
    private static final int HOLDS_OP = 3;
    private static final int PLUS_OP = 4;
    private static final int MINUS_OP = 5;
    private static final int TIMES_OP = 6;
    private static final int DIVIDE_OP = 7;
    private static final int REST_OP = 8;
    private static final int BELOW_OP = 9;
    private static final int ABOVE_OP = 10;
    private static final int EQUAL_OP = 11;
    private static final int NOT_OP = 12;
    private static final int OR_OP = 13;
    private static final int AND_OP = 14;
    private static final int OP_SPAN = 16;

    /** The words of both languages; the numbers below are their places in this row. */
    private static final String WORDS = "costs gains fines bars go give inspect wait if times by of to or and not person years want keys watch before others hour odds mood bread inside done found place holds ";
    private static final int GO_WORD = 4;
    private static final int IF_WORD = 8;
    private static final int TIMES_WORD = 9;
    private static final int BY_WORD = 10;
    private static final int OF_WORD = 11;
    private static final int TO_WORD = 12;
    private static final int OR_WORD = 13;
    private static final int AND_WORD = 14;
    private static final int NOT_WORD = 15;
    private static final int FIRST_LAW_WORD = 16;
    private static final int HOUR_WORD = 23;
    private static final int LAST_LAW_WORD = 25;
    private static final int BREAD_WORD = 26;
    private static final int INSIDE_WORD = 27;
    private static final int DONE_WORD = 28;
    private static final int FOUND_WORD = 29;
    private static final int PLACE_WORD = 30;
    private static final int HOLDS_WORD = 31;

    private final Prison now;
    private final Prison[] images;
    private final Reader reader;
    private final Judge judge;
    private final Goings goings;
    private final Sergeant sergeant;
    private final Doors doors;
    private final Counting counting;
    private final Nights latestNights;
    private Rota planner;
    private boolean planned;
    private final int[] refusals;
    private int latestRefusal;
    private int latestRats;

    public KeyKeepers() {
        now = new Prison();
        images = new Prison[IMAGE_ROOM];
        reader = new Reader();
        judge = new Judge();
        goings = new Goings();
        sergeant = new Sergeant();
        doors = new Doors();
        counting = new Counting();
        latestNights = new Nights();
        refusals = new int[5];
    }

    public int door(int one, int other) {
        if (!isPlace(one) || !isPlace(other) || one == other) {
            return refuse(BAD_NUMBER);
        }
        if (now.doors >= DOOR_ROOM) {
            return refuse(NO_ROOM);
        }
        return settle(now.addDoor(one, other));
    }

    public int wall(int door, int is) {
        if (!isBit(is)) {
            return refuse(BAD_NUMBER);
        }
        if (!now.hasDoor(door)) {
            return refuse(NO_SUCH);
        }
        int was = bitOf(now.walls, door);
        now.walls = withBit(now.walls, door, is);
        return settle(was);
    }

    public int prisoner(int years, int want, int place) {
        if (!canBePrisoner(years, want, place)) {
            return refuse(BAD_NUMBER);
        }
        if (now.people >= PEOPLE_ROOM) {
            return refuse(NO_ROOM);
        }
        goings.clear();
        return settle(now.addPrisoner(years, want, place));
    }

    public int of(int prisoner, int what) {
        if (!now.hasPrisoner(prisoner)) {
            return NONE;
        }
        switch (what) {
            case 0: return now.years[prisoner];
            case 1: return now.want[prisoner];
            case 2: return now.place[prisoner];
            case 3: return now.keys[prisoner];
            case 4: return now.trusts[prisoner];
            case 5: return bitOf(now.votes, prisoner);
            default: return NONE;
        }
    }

    public int key(int prisoner, int door, int is) {
        if (!isBit(is)) {
            return refuse(BAD_NUMBER);
        }
        if (!now.hasPrisoner(prisoner) || !now.hasDoor(door)) {
            return refuse(NO_SUCH);
        }
        int was = bitOf(now.keys[prisoner], door);
        now.keys[prisoner] = withBit(now.keys[prisoner], door, is);
        goings.clear();
        return settle(was);
    }

    public int trust(int one, int other, int is) {
        if (!isBit(is) || one == other) {
            return refuse(BAD_NUMBER);
        }
        if (!now.hasPrisoner(one) || !now.hasPrisoner(other)) {
            return refuse(NO_SUCH);
        }
        int was = bitOf(now.trusts[one], other);
        now.trusts[one] = withBit(now.trusts[one], other, is);
        return settle(was);
    }

    public int vote(int prisoner, int is) {
        if (!isBit(is)) {
            return refuse(BAD_NUMBER);
        }
        if (!now.hasPrisoner(prisoner)) {
            return refuse(NO_SUCH);
        }
        int was = bitOf(now.votes, prisoner);
        now.votes = withBit(now.votes, prisoner, is);
        return settle(was);
    }

    public int terms(int what, int value) {
        if (!within(what, HOUR, MOOD) || !within(value, TERM_LEAST[what], TERM_MOST[what])) {
            return refuse(BAD_NUMBER);
        }
        int was = now.terms[what];
        now.terms[what] = value;
        goings.clear();
        return settle(was);
    }

    public int feed(int a, int b, int c, int d, int e) {
        if (reader.size + 20 > TAPE_ROOM) {
            return NONE;
        }
        reader.take(a);
        reader.take(b);
        reader.take(c);
        reader.take(d);
        reader.take(e);
        return reader.size;
    }

    public int end(int n) {
        if (!within(n, 0, reader.size)) {
            return NONE;
        }
        reader.size = n;
        return n;
    }

    public int row() {
        int size = reader.size;
        if (size == 0) {
            return refuse(BAD_TEXT);
        }
        int came = 0;
        latestRats = 0;
        for (int at = 0; at < size; at += 3) {
            if (at + 2 < size && admit(reader.tape[at], reader.tape[at + 1], reader.tape[at + 2])) {
                came++;
            } else {
                latestRats++;
            }
        }
        reader.size = 0;
        goings.clear();
        return settle(came);
    }

    public int rats() {
        return latestRats;
    }

    public int law() {
        if (now.lawCount >= LAW_ROOM) {
            reader.size = 0;
            return refuse(NO_ROOM);
        }
        if (!reader.reads(true)) {
            return refuse(BAD_TEXT);
        }
        return settle(now.addLaw(reader.draft.trimmed()));
    }

    public int orders() {
        sergeant.stoppedAt = NONE;
        if (!reader.reads(false)) {
            return refuse(BAD_TEXT);
        }
        if (!sergeant.obeys(now, goings, reader.draft, judge.machine)) {
            return refuse(CANNOT_BE);
        }
        return settle(sergeant.done);
    }

    public int fault() {
        return reader.faultAt;
    }

    public int stopped() {
        return sergeant.stoppedAt;
    }

    public int force(int law) {
        if (law != NONE && !now.hasLaw(law)) {
            return refuse(NO_SUCH);
        }
        int was = now.inForce;
        now.inForce = law;
        return settle(was);
    }

    public int asks(int prisoner, int what, int k) {
        int most = what < 4 ? WATCHES - 1 : PEOPLE_ROOM - 1;
        if (!now.hasPrisoner(prisoner) || !within(k, 0, most)) {
            return NONE;
        }
        Text law = now.lawOf(now.inForce);
        switch (what) {
            case 0: return judge.costOf(now, law, prisoner, k, 0);
            case 1: return judge.costOf(now, law, prisoner, k, 1);
            case 2: return judge.isBarred(now, law, prisoner, k, 0) ? 1 : 0;
            case 3: return judge.isBarred(now, law, prisoner, k, 1) ? 1 : 0;
            case 4: return judge.gainOf(now, law, prisoner, k);
            case 5: return judge.fineOf(now, law, prisoner, k);
            case 6: return judge.staysOut(now, law, prisoner, k) ? 1 : 0;
            default: return NONE;
        }
    }

    public int go(int prisoner, int door) {
        return settleOrRefuse(goings.walk(now, prisoner, door));
    }

    public int give(int door, int from, int to) {
        return settleOrRefuse(goings.hand(now, door, from, to));
    }

    public int inspect() {
        return settleOrRefuse(goings.look(now));
    }

    public int pass() {
        return settleOrRefuse(goings.hourOn(now));
    }

    public int undo() {
        return settleOrRefuse(goings.takeBack(now));
    }

    public int opens(int prisoner, int door) {
        if (!now.hasPrisoner(prisoner) || !now.hasDoor(door)) {
            return NONE;
        }
        return now.unlocks(prisoner, door, now.place) ? 1 : 0;
    }

    public int way(int prisoner) {
        return now.hasPrisoner(prisoner) ? doors.fewestToOutside(now, prisoner) : NONE;
    }

    public int cut(int prisoner, int what) {
        if (!now.hasPrisoner(prisoner) || now.place[prisoner] == OUTSIDE || !isBit(what)) {
            return NONE;
        }
        int walled = doors.fewestWalls(now, prisoner);
        return what == 0 ? Integer.bitCount(walled) : walled;
    }

    public int together() {
        int bits = 0;
        for (int p = 0; p < now.people; p++) {
            if (now.place[p] != OUTSIDE && doors.fewestToOutside(now, p) != NONE) {
                bits |= 1 << p;
            }
        }
        return bits;
    }

    public int rota(int what) {
        if (!within(what, 0, WATCHES + 1)) {
            return NONE;
        }
        if (planner == null) {
            planner = new Rota();
        }
        if (!planned) {
            planner.plan(now, judge);
            planned = true;
        }
        if (what == 1) {
            return planner.many;
        }
        if (planner.many == 0) {
            return NONE;
        }
        return what == 0 ? planner.cost : planner.row[what - 2];
    }

    public int rests(int what) {
        if (!isBit(what) || !judge.comesToRest(now)) {
            return NONE;
        }
        return what == 0 ? judge.restOut : judge.restRounds;
    }

    public int parted(int n, int what) {
        if (!within(n, 1, MOST_PARTED) || n > now.doors || !within(what, 0, n)) {
            return NONE;
        }
        int many = doors.waysToPart(now, n);
        if (what == 0) {
            return many;
        }
        if (many == 0) {
            return NONE;
        }
        doors.partFirst(now, n);
        return doors.keepers[what - 1];
    }

    public int tally(int group, int inside) {
        if (!within(group, 0, now.everybody()) || !within(inside, 0, Integer.bitCount(group))) {
            return refuse(BAD_NUMBER);
        }
        if (now.counts >= COUNT_ROOM) {
            return refuse(NO_ROOM);
        }
        return settle(now.addCount(group, inside));
    }

    public int forget() {
        int were = now.counts;
        now.counts = 0;
        return were;
    }

    public int out(int i) {
        counting.gather(now);
        if (i == NONE) {
            return counting.sets;
        }
        return within(i, 0, counting.sets - 1) ? counting.set[i] : NONE;
    }

    public int next(int what) {
        if (!isBit(what) || now.people == 0) {
            return NONE;
        }
        counting.gather(now);
        if (counting.sets == 0) {
            return NONE;
        }
        counting.choose(now);
        return what == 0 ? counting.bestGroup : counting.bestLeft;
    }

    public int voted(int law) {
        if (law != NONE && !now.hasLaw(law)) {
            return NONE;
        }
        return judge.votersFor(now, now.lawOf(law));
    }

    public int sure(int f, int what) {
        if (!within(f, 0, PEOPLE_ROOM) || !isBit(what)) {
            return NONE;
        }
        int again = counting.placesToRecount(now, f);
        return what == 0 ? Integer.bitCount(again) : again;
    }

    public int nights(int seed, int n) {
        if (!within(seed, 0, MOST_SEED) || !within(n, 1, MOST_NIGHTS)) {
            return refuse(BAD_NUMBER);
        }
        if (now.people == 0 || now.doors == 0) {
            return refuse(CANNOT_BE);
        }
        return settle(latestNights.draw(now, seed, n));
    }

    public int drawn(int k, int what) {
        if (what == 0) {
            return within(k, 0, latestNights.people - 1) ? latestNights.place[k] : NONE;
        }
        return what == 1 && latestNights.people > 0 ? latestNights.bread : NONE;
    }

    public int image(int k) {
        if (!isBit(k)) {
            return refuse(BAD_NUMBER);
        }
        Prison image = images[k];
        if (image == null) {
            image = new Prison();
            images[k] = image;
        }
        image.copyFrom(now);
        return settle(0);
    }

    public int back(int k) {
        if (!isBit(k)) {
            return refuse(BAD_NUMBER);
        }
        Prison image = images[k];
        if (image == null) {
            return refuse(NO_SUCH);
        }
        now.copyFrom(image);
        goings.clear();
        return settle(0);
    }

    public int count(int what) {
        if (within(what, 7, 11)) {
            return refusals[what - 7];
        }
        if (within(what, 14, 17)) {
            return now.terms[what - 14];
        }
        switch (what) {
            case 0: return now.doors;
            case 1: return now.people;
            case 2: return now.insideAt(now.place);
            case 3: return now.counts;
            case 4: return now.lawCount;
            case 5: return goings.kept;
            case 6: return reader.size;
            case 12: return now.inForce;
            case 13: return now.bread;
            default: return NONE;
        }
    }

    public int status() {
        return latestRefusal;
    }

    /** Every call that changes what a ROTA depends on ends here, so the latest plan is stale behind it. */
    private int settle(int answer) {
        latestRefusal = 0;
        planned = false;
        return answer;
    }

    private int refuse(int by) {
        latestRefusal = by;
        int slot = by > NO_ROOM ? -by - 1 : -by - 2;
        if (slot >= 0 && slot < refusals.length) {
            refusals[slot]++;
        }
        return by;
    }

    /** Only for calls whose answers are never below 0. */
    private int settleOrRefuse(int answer) {
        return answer < 0 ? refuse(answer) : settle(answer);
    }

    private boolean admit(int years, int want, int place) {
        if (now.people >= PEOPLE_ROOM || !canBePrisoner(years, want, place)) {
            return false;
        }
        now.addPrisoner(years, want, place);
        return true;
    }

    private static boolean canBePrisoner(int years, int want, int place) {
        return within(years, 1, MOST_YEARS) && within(want, 0, MOST_WANT) && isPlace(place) && place != OUTSIDE;
    }

    private static boolean isPlace(int place) {
        return within(place, 0, PLACE_ROOM - 1);
    }

    private static boolean isBit(int is) {
        return is == 0 || is == 1;
    }

    private static boolean within(int value, int least, int most) {
        return value >= least && value <= most;
    }

    private static int bitOf(int bits, int at) {
        return bits >> at & 1;
    }

    private static int withBit(int bits, int at, int is) {
        return is == 1 ? bits | 1 << at : bits & ~(1 << at);
    }

    /** All that IMAGES keep. */
    private static final class Prison {
        final int[] one = new int[DOOR_ROOM];
        final int[] other = new int[DOOR_ROOM];
        int doors;
        int walls;
        final int[] years = new int[PEOPLE_ROOM];
        final int[] want = new int[PEOPLE_ROOM];
        final int[] place = new int[PEOPLE_ROOM];
        final int[] keys = new int[PEOPLE_ROOM];
        final int[] trusts = new int[PEOPLE_ROOM];
        int votes;
        int people;
        final int[] groups = new int[COUNT_ROOM];
        final int[] insides = new int[COUNT_ROOM];
        int counts;
        final Text[] laws = new Text[LAW_ROOM];
        int lawCount;
        int inForce = NONE;
        final int[] terms = {0, 3, 3, 0};
        int bread;

        void copyFrom(Prison from) {
            System.arraycopy(from.one, 0, one, 0, DOOR_ROOM);
            System.arraycopy(from.other, 0, other, 0, DOOR_ROOM);
            doors = from.doors;
            walls = from.walls;
            System.arraycopy(from.years, 0, years, 0, PEOPLE_ROOM);
            System.arraycopy(from.want, 0, want, 0, PEOPLE_ROOM);
            System.arraycopy(from.place, 0, place, 0, PEOPLE_ROOM);
            System.arraycopy(from.keys, 0, keys, 0, PEOPLE_ROOM);
            System.arraycopy(from.trusts, 0, trusts, 0, PEOPLE_ROOM);
            votes = from.votes;
            people = from.people;
            System.arraycopy(from.groups, 0, groups, 0, COUNT_ROOM);
            System.arraycopy(from.insides, 0, insides, 0, COUNT_ROOM);
            counts = from.counts;
            for (int i = 0; i < LAW_ROOM; i++) {
                laws[i] = from.laws[i];
            }
            lawCount = from.lawCount;
            inForce = from.inForce;
            System.arraycopy(from.terms, 0, terms, 0, terms.length);
            bread = from.bread;
        }

        boolean hasDoor(int d) {
            return d >= 0 && d < doors;
        }

        boolean hasPrisoner(int p) {
            return p >= 0 && p < people;
        }

        boolean hasLaw(int law) {
            return law >= 0 && law < lawCount;
        }

        /** null stands for NONE: a law without a CLAUSE. */
        Text lawOf(int law) {
            return hasLaw(law) ? laws[law] : null;
        }

        int everybody() {
            return (1 << people) - 1;
        }

        int addDoor(int from, int to) {
            if (doors >= DOOR_ROOM) {
                return NONE;
            }
            one[doors] = from;
            other[doors] = to;
            return doors++;
        }

        int addPrisoner(int hisYears, int hisWant, int hisPlace) {
            if (people >= PEOPLE_ROOM) {
                return NONE;
            }
            years[people] = hisYears;
            want[people] = hisWant;
            place[people] = hisPlace;
            keys[people] = 0;
            trusts[people] = 0;
            votes = withBit(votes, people, 0);
            return people++;
        }

        int addCount(int group, int inside) {
            if (counts >= COUNT_ROOM) {
                return NONE;
            }
            groups[counts] = group;
            insides[counts] = inside;
            counts++;
            return counts;
        }

        int addLaw(Text law) {
            if (lawCount >= LAW_ROOM) {
                return NONE;
            }
            laws[lawCount] = law;
            return lawCount++;
        }

        /** The places are an argument, because NIGHTS go about on paper. */
        boolean unlocks(int p, int d, int[] places) {
            if (bitOf(walls, d) == 1) {
                return false;
            }
            if (bitOf(keys[p], d) == 1) {
                return true;
            }
            for (int q = 0; q < people; q++) {
                if (places[q] == places[p] && bitOf(keys[q], d) == 1 && bitOf(trusts[q], p) == 1) {
                    return true;
                }
            }
            return false;
        }

        /** The PLACE behind a DOOR for one who can GO by it, else NONE. */
        int placeBeyond(int p, int d, int[] places) {
            if (!unlocks(p, d, places)) {
                return NONE;
            }
            if (places[p] == one[d]) {
                return other[d];
            }
            return places[p] == other[d] ? one[d] : NONE;
        }

        int insideAt(int[] places) {
            int inside = 0;
            for (int p = 0; p < people; p++) {
                if (places[p] != OUTSIDE) {
                    inside++;
                }
            }
            return inside;
        }

        int breadBehind(int had, int inside) {
            int comes = inside == people ? 2 * inside : inside;
            return Math.min(MOST_BREAD, had + comes);
        }
    }

    /** What was done and can be undone; to do it is told here too, so that ORDERS do it the same way. */
    private static final class Goings {
        int kept;
        private final int[] kind = new int[UNDO_ROOM];
        private final int[] who = new int[UNDO_ROOM];
        private final int[] was = new int[UNDO_ROOM];
        private final int[] other = new int[UNDO_ROOM];
        private final int[] otherWas = new int[UNDO_ROOM];

        void clear() {
            kept = 0;
        }

        void copyFrom(Goings from) {
            kept = from.kept;
            System.arraycopy(from.kind, 0, kind, 0, UNDO_ROOM);
            System.arraycopy(from.who, 0, who, 0, UNDO_ROOM);
            System.arraycopy(from.was, 0, was, 0, UNDO_ROOM);
            System.arraycopy(from.other, 0, other, 0, UNDO_ROOM);
            System.arraycopy(from.otherWas, 0, otherWas, 0, UNDO_ROOM);
        }

        int walk(Prison prison, int p, int d) {
            if (!prison.hasPrisoner(p) || !prison.hasDoor(d)) {
                return NO_SUCH;
            }
            int to = prison.placeBeyond(p, d, prison.place);
            if (to == NONE) {
                return CANNOT_BE;
            }
            keep(GO, p, prison.place[p], 0, 0);
            prison.place[p] = to;
            return to;
        }

        int hand(Prison prison, int d, int from, int to) {
            if (!prison.hasDoor(d) || !prison.hasPrisoner(from) || !prison.hasPrisoner(to)) {
                return NO_SUCH;
            }
            boolean near = from != to && prison.place[from] == prison.place[to];
            if (!near || bitOf(prison.keys[from], d) == 0 || bitOf(prison.trusts[from], to) == 0) {
                return CANNOT_BE;
            }
            keep(GIVE, from, prison.keys[from], to, prison.keys[to]);
            prison.keys[from] = withBit(prison.keys[from], d, 0);
            prison.keys[to] = withBit(prison.keys[to], d, 1);
            return 0;
        }

        int look(Prison prison) {
            if (prison.people == 0) {
                return CANNOT_BE;
            }
            int inside = prison.insideAt(prison.place);
            keep(INSPECT, 0, prison.bread, 0, 0);
            prison.bread = prison.breadBehind(prison.bread, inside);
            return inside;
        }

        int hourOn(Prison prison) {
            int hour = prison.terms[HOUR];
            if (hour >= LAST_HOUR) {
                return CANNOT_BE;
            }
            keep(PASS, 0, hour, 0, 0);
            prison.terms[HOUR] = hour + 1;
            return hour + 1;
        }

        int takeBack(Prison prison) {
            if (kept <= 0) {
                return CANNOT_BE;
            }
            kept--;
            int one = who[kept];
            int another = other[kept];
            switch (kind[kept]) {
                case GO:
                    prison.place[one] = was[kept];
                    break;
                case GIVE:
                    prison.keys[one] = was[kept];
                    prison.keys[another] = otherWas[kept];
                    break;
                case INSPECT:
                    prison.bread = was[kept];
                    break;
                default:
                    prison.terms[HOUR] = was[kept];
                    break;
            }
            return kind[kept];
        }

        private void keep(int what, int one, int oneWas, int another, int anotherWas) {
            if (kept >= UNDO_ROOM) {
                dropOldest();
            }
            kind[kept] = what;
            who[kept] = one;
            was[kept] = oneWas;
            other[kept] = another;
            otherWas[kept] = anotherWas;
            kept++;
        }

        private void dropOldest() {
            kept = UNDO_ROOM - 1;
            System.arraycopy(kind, 1, kind, 0, kept);
            System.arraycopy(who, 1, who, 0, kept);
            System.arraycopy(was, 1, was, 0, kept);
            System.arraycopy(other, 1, other, 0, kept);
            System.arraycopy(otherWas, 1, otherWas, 0, kept);
        }
    }

    /**
     * A LAW or ORDERS that were read: the code of each CLAUSE stands between its marks, SUM by SUM
     * and then the TEST. An instruction is its op and OP_SPAN times what goes with it.
     */
    private static final class Text {
        final int[] code;
        int codeSize;
        int clauses;
        private final int[] kinds;
        private final int[] times;
        private final int[] marks;

        Text(int codeRoom, int clauseRoom) {
            int clausesKept = Math.max(0, clauseRoom);
            code = new int[Math.max(0, codeRoom)];
            kinds = new int[clausesKept];
            times = new int[clausesKept];
            marks = new int[clausesKept * MARK_ROOM];
        }

        Text trimmed() {
            Text copy = new Text(codeSize, clauses);
            System.arraycopy(code, 0, copy.code, 0, codeSize);
            System.arraycopy(kinds, 0, copy.kinds, 0, clauses);
            System.arraycopy(times, 0, copy.times, 0, clauses);
            System.arraycopy(marks, 0, copy.marks, 0, clauses * MARK_ROOM);
            copy.codeSize = codeSize;
            copy.clauses = clauses;
            return copy;
        }

        void empty() {
            codeSize = 0;
            clauses = 0;
        }

        void begin(int kind) {
            if (clauses < kinds.length) {
                kinds[clauses] = kind;
                times[clauses] = 1;
                clauses++;
                markFrom(0);
            }
        }

        /** Marks from this one on stand here, till a later part of the CLAUSE moves them. */
        void markFrom(int first) {
            for (int i = first; i < MARK_ROOM; i++) {
                int at = (clauses - 1) * MARK_ROOM + i;
                if (at >= 0 && at < marks.length) {
                    marks[at] = codeSize;
                }
            }
        }

        void setTimes(int many) {
            if (clauses > 0) {
                times[clauses - 1] = many;
            }
        }

        int emit(int op, int with) {
            if (codeSize >= code.length) {
                return NONE;
            }
            code[codeSize] = op + OP_SPAN * with;
            return codeSize++;
        }

        /** A jump that was written ahead of what it jumps over goes to here. */
        void landHere(int jump, int op) {
            if (jump >= 0 && jump < codeSize) {
                code[jump] = op + OP_SPAN * codeSize;
            }
        }

        int kindOf(int clause) {
            return within(clause, 0, clauses - 1) ? kinds[clause] : NONE;
        }

        int timesOf(int clause) {
            return within(clause, 0, clauses - 1) ? times[clause] : 0;
        }

        int markOf(int clause, int i) {
            int at = clause * MARK_ROOM + i;
            return clause >= 0 && i >= 0 && at < marks.length ? marks[at] : 0;
        }
    }

    /**
     * The TAPE, and how both languages are read from it: first all TOKENS, then CLAUSE by CLAUSE.
     * Where a read...() answers false, the TOKEN at hand is the FAULT.
     */
    private static final class Reader {
        private static final int TOO_MUCH = 100000;
        private static final int WORD_TOKEN = 1000000;
        private static final int SIGN_TOKEN = 2000000;
        private static final int END_TOKEN = 3000000;

        final int[] tape = new int[TAPE_ROOM];
        int size;
        int faultAt = NONE;
        final Text draft = new Text(TAPE_ROOM, CLAUSE_ROOM);
        private boolean forLaw;
        /** A NUMBER as it is, a word or a sign behind WORD_TOKEN, SIGN_TOKEN. */
        private final int[] tokens = new int[TAPE_ROOM + 1];
        private final int[] starts = new int[TAPE_ROOM + 1];
        private int at;
        private int token;
        private int parts;

        void take(int four) {
            for (int shift = 24; shift >= 0; shift -= 8) {
                if (size < TAPE_ROOM) {
                    tape[size] = four >>> shift & 255;
                    size++;
                }
            }
        }

        /** Reads the TAPE into the draft; the TAPE is empty then. */
        boolean reads(boolean asLaw) {
            splitTape();
            forLaw = asLaw;
            parts = 0;
            at = 0;
            token = tokens[0];
            draft.empty();
            boolean good = false;
            boolean more = true;
            for (int clause = 0; clause < CLAUSE_ROOM && more; clause++) {
                boolean clauseGood = forLaw ? readLawClause() : readOrderClause();
                good = clauseGood && token == END_TOKEN;
                more = clauseGood && readToken(SIGN_TOKEN + ';');
            }
            faultAt = good ? NONE : starts[at];
            size = 0;
            return good;
        }

        private boolean readLawClause() {
            int kind = token - WORD_TOKEN;
            if (!within(kind, COSTS, BARS)) {
                return false;
            }
            draft.begin(kind);
            advance();
            if (kind != BARS && !readSum(0)) {
                return false;
            }
            draft.markFrom(1);
            return readIf();
        }

        private boolean readOrderClause() {
            int kind = token - WORD_TOKEN - GO_WORD;
            if (!within(kind, GO, PASS)) {
                return false;
            }
            draft.begin(kind);
            advance();
            boolean good = true;
            if (kind == GO) {
                good = readOrderSum(1, BY_WORD) && readOrderSum(2, NONE);
            } else if (kind == GIVE) {
                good = readOrderSum(1, OF_WORD) && readOrderSum(2, TO_WORD) && readOrderSum(3, NONE);
            }
            return good && readTimes() && readIf();
        }

        /** A SUM and the word that must stand behind it, if there is one. */
        private boolean readOrderSum(int nextMark, int word) {
            if (!readSum(0)) {
                return false;
            }
            draft.markFrom(nextMark);
            return word == NONE || readToken(WORD_TOKEN + word);
        }

        private boolean readTimes() {
            if (!readToken(WORD_TOKEN + TIMES_WORD)) {
                return true;
            }
            if (!within(token, 1, MOST_TIMES)) {
                return false;
            }
            draft.setTimes(token);
            advance();
            return true;
        }

        private boolean readIf() {
            if (!readToken(WORD_TOKEN + IF_WORD)) {
                return true;
            }
            if (!readTest(0)) {
                return false;
            }
            draft.markFrom(MARK_ROOM - 1);
            return true;
        }

        /** open, here and below: how many brackets stand open. */
        private boolean readTest(int open) {
            if (!readBoth(open)) {
                return false;
            }
            for (int more = 0; more < TAPE_ROOM && readToken(WORD_TOKEN + OR_WORD); more++) {
                int jump = draft.emit(OR_OP, 0);
                if (!readBoth(open)) {
                    return false;
                }
                draft.landHere(jump, OR_OP);
            }
            return true;
        }

        private boolean readBoth(int open) {
            if (!readPlain(open)) {
                return false;
            }
            for (int more = 0; more < TAPE_ROOM && readToken(WORD_TOKEN + AND_WORD); more++) {
                int jump = draft.emit(AND_OP, 0);
                if (!readPlain(open)) {
                    return false;
                }
                draft.landHere(jump, AND_OP);
            }
            return true;
        }

        /** A row of "not" is counted, not gone down into: it may be a hundred long. */
        private boolean readPlain(int open) {
            int nots = 0;
            for (int more = 0; more < TAPE_ROOM && readToken(WORD_TOKEN + NOT_WORD); more++) {
                nots++;
            }
            if (token == SIGN_TOKEN + '(') {
                if (open >= BRACKET_ROOM) {
                    return false;
                }
                advance();
                if (!readTest(open + 1) || !readToken(SIGN_TOKEN + ')')) {
                    return false;
                }
            } else {
                if (!readSum(open)) {
                    return false;
                }
                int op = signOp();
                if (!within(op, BELOW_OP, EQUAL_OP)) {
                    return false;
                }
                advance();
                if (!readSum(open)) {
                    return false;
                }
                draft.emit(op, 0);
            }
            if (nots % 2 == 1) {
                draft.emit(NOT_OP, 0);
            }
            return true;
        }

        private boolean readSum(int open) {
            if (!readTerm(open)) {
                return false;
            }
            int op = signOp();
            for (int more = 0; more < TAPE_ROOM && within(op, PLUS_OP, MINUS_OP); more++) {
                advance();
                if (!readTerm(open)) {
                    return false;
                }
                draft.emit(op, 0);
                op = signOp();
            }
            return true;
        }

        private boolean readTerm(int open) {
            if (!readPart(open)) {
                return false;
            }
            int op = signOp();
            for (int more = 0; more < TAPE_ROOM && within(op, TIMES_OP, REST_OP); more++) {
                advance();
                if (!readPart(open)) {
                    return false;
                }
                draft.emit(op, 0);
                op = signOp();
            }
            return true;
        }

        private boolean readPart(int open) {
            if (token == SIGN_TOKEN + '[') {
                if (open >= BRACKET_ROOM) {
                    return false;
                }
                advance();
                return readSum(open + 1) && readToken(SIGN_TOKEN + ']');
            }
            boolean number = within(token, 0, MOST_NUMBER);
            if (parts >= PART_ROOM || !number && !isAskedWord(token - WORD_TOKEN)) {
                return false;
            }
            parts++;
            if (number) {
                draft.emit(NUMBER_OP, token);
                advance();
                return true;
            }
            return readAskedWord();
        }

        private boolean isAskedWord(int word) {
            if (forLaw) {
                return within(word, FIRST_LAW_WORD, LAST_LAW_WORD);
            }
            return word == HOUR_WORD || within(word, BREAD_WORD, HOLDS_WORD);
        }

        private boolean readAskedWord() {
            int word = token - WORD_TOKEN;
            advance();
            if (word != PLACE_WORD && word != HOLDS_WORD) {
                draft.emit(WORD_OP, word - FIRST_LAW_WORD);
                return true;
            }
            int who = token;
            if (!within(who, 0, PEOPLE_ROOM - 1)) {
                return false;
            }
            advance();
            if (word == PLACE_WORD) {
                draft.emit(PLACE_OP, who);
                return true;
            }
            if (!within(token, 0, DOOR_ROOM - 1)) {
                return false;
            }
            draft.emit(HOLDS_OP, who * DOOR_ROOM + token);
            advance();
            return true;
        }

        private int signOp() {
            switch (token) {
                case SIGN_TOKEN + '+': return PLUS_OP;
                case SIGN_TOKEN + '-': return MINUS_OP;
                case SIGN_TOKEN + '*': return TIMES_OP;
                case SIGN_TOKEN + '/': return DIVIDE_OP;
                case SIGN_TOKEN + '%': return REST_OP;
                case SIGN_TOKEN + '<': return BELOW_OP;
                case SIGN_TOKEN + '>': return ABOVE_OP;
                case SIGN_TOKEN + '=': return EQUAL_OP;
                default: return NONE;
            }
        }

        private boolean readToken(int wanted) {
            if (token != wanted) {
                return false;
            }
            advance();
            return true;
        }

        private void advance() {
            if (token != END_TOKEN && at < TAPE_ROOM) {
                at++;
                token = tokens[at];
            }
        }

        private void splitTape() {
            int many = 0;
            int from = 0;
            for (int i = 0; i < TAPE_ROOM && from < size; i++) {
                int behind = from + 1;
                if (tape[from] != ' ') {
                    behind = behindToken(from);
                    starts[many] = from;
                    tokens[many] = tokenOf(from, behind);
                    many++;
                }
                from = behind;
            }
            starts[many] = size;
            tokens[many] = END_TOKEN;
        }

        private int behindToken(int from) {
            int behind = from + 1;
            if (isLetter(tape[from])) {
                while (behind < size && isLetter(tape[behind])) {
                    behind++;
                }
            } else if (isDigit(tape[from])) {
                while (behind < size && isDigit(tape[behind])) {
                    behind++;
                }
            }
            return behind;
        }

        private int tokenOf(int from, int behind) {
            if (isLetter(tape[from])) {
                return WORD_TOKEN + wordOf(from, behind);
            }
            if (!isDigit(tape[from])) {
                return SIGN_TOKEN + tape[from];
            }
            int number = 0;
            for (int i = from; i < behind; i++) {
                number = Math.min(TOO_MUCH, number * 10 + tape[i] - '0');
            }
            return number;
        }

        /** Which word of WORDS stands there, or one more than there are. */
        private int wordOf(int from, int behind) {
            int word = 0;
            int start = 0;
            for (int i = 0; i < WORDS.length(); i++) {
                if (WORDS.charAt(i) == ' ') {
                    if (i - start == behind - from && isWordAt(from, start, i - start)) {
                        return word;
                    }
                    word++;
                    start = i + 1;
                }
            }
            return word;
        }

        private boolean isWordAt(int from, int start, int length) {
            for (int i = 0; i < length; i++) {
                if (tape[from + i] != WORDS.charAt(start + i)) {
                    return false;
                }
            }
            return true;
        }

        private static boolean isLetter(int sign) {
            return sign >= 'a' && sign <= 'z';
        }

        private static boolean isDigit(int sign) {
            return sign >= '0' && sign <= '9';
        }
    }

    /** Works out SUMS and TESTS; a TEST that is so is 1. */
    private static final class Machine {
        /** What the words that stand for a number are, from FIRST_LAW_WORD on. */
        final int[] words = new int[FOUND_WORD - FIRST_LAW_WORD + 1];
        int value;
        private final int[] stack = new int[STACK_ROOM];
        private int height;

        /** A SUM (0 .. 2) of a CLAUSE or its TEST (TEST_PART), which is so if there is none. false: BROKEN. */
        boolean works(Prison prison, Text text, int clause, int part) {
            int at = text.markOf(clause, part);
            int behind = Math.min(text.markOf(clause, part + 1), text.codeSize);
            height = 0;
            value = 1;
            boolean whole = true;
            for (int step = 0; step < TAPE_ROOM && at < behind && whole; step++) {
                int op = text.code[at] % OP_SPAN;
                int with = text.code[at] / OP_SPAN;
                at++;
                if (op < PLUS_OP) {
                    whole = puts(prison, op, with);
                } else if (op < NOT_OP) {
                    whole = joins(op);
                } else if (turns(op)) {
                    at = Math.max(at, with);
                }
            }
            if (whole && height > 0) {
                value = stack[height - 1];
            }
            return whole;
        }

        private boolean puts(Prison prison, int op, int with) {
            int what = with;
            if (op == WORD_OP) {
                what = with < words.length ? words[with] : 0;
            } else if (op == PLACE_OP) {
                what = with < prison.people ? prison.place[with] : NONE;
            } else if (op == HOLDS_OP) {
                int who = with / DOOR_ROOM;
                what = who < prison.people ? prison.keys[who] >> with % DOOR_ROOM & 1 : NONE;
            }
            if (height >= STACK_ROOM) {
                return false;
            }
            stack[height] = what;
            height++;
            return true;
        }

        private boolean joins(int op) {
            if (height < 2) {
                return false;
            }
            long left = stack[height - 2];
            long right = stack[height - 1];
            if (right == 0 && (op == DIVIDE_OP || op == REST_OP)) {
                return false;
            }
            long joined;
            switch (op) {
                case PLUS_OP:
                    joined = left + right;
                    break;
                case MINUS_OP:
                    joined = left - right;
                    break;
                case TIMES_OP:
                    joined = left * right;
                    break;
                case DIVIDE_OP:
                    joined = right == 0 ? 0 : left / right;
                    break;
                case REST_OP:
                    joined = right == 0 ? 0 : left % right;
                    break;
                case BELOW_OP:
                    joined = left < right ? 1 : 0;
                    break;
                case ABOVE_OP:
                    joined = left > right ? 1 : 0;
                    break;
                default:
                    joined = left == right ? 1 : 0;
                    break;
            }
            if (joined > MOST_VALUE || joined < -MOST_VALUE) {
                return false;
            }
            height--;
            stack[height - 1] = (int) joined;
            return true;
        }

        /** "not" turns what stands ahead over; for "or", "and": whether it settles the TEST, so that nothing behind is asked. */
        private boolean turns(int op) {
            if (height < 1) {
                return false;
            }
            int top = stack[height - 1];
            if (op == NOT_OP) {
                stack[height - 1] = 1 - top;
                return false;
            }
            boolean settled = top == (op == OR_OP ? 1 : 0);
            if (!settled) {
                height--;
            }
            return settled;
        }
    }

    /** What a LAW (null: none) tells of a PRISONER. */
    private static final class Judge {
        final Machine machine = new Machine();
        int restOut;
        int restRounds;
        private final int[] asked = new int[PEOPLE_ROOM];
        private final int[] stays = new int[PEOPLE_ROOM];

        int costOf(Prison prison, Text law, int p, int watch, int before) {
            setWords(prison, p, watch, before, NONE);
            return told(prison, law, COSTS, prison.want[p] + 1);
        }

        boolean isBarred(Prison prison, Text law, int p, int watch, int before) {
            setWords(prison, p, watch, before, NONE);
            return told(prison, law, BARS, NONE) != NONE;
        }

        int gainOf(Prison prison, Text law, int p, int others) {
            setWords(prison, p, NONE, NONE, others);
            return told(prison, law, GAINS, prison.want[p] * 3);
        }

        int fineOf(Prison prison, Text law, int p, int others) {
            setWords(prison, p, NONE, NONE, others);
            return told(prison, law, FINES, prison.years[p]);
        }

        boolean staysOut(Prison prison, Text law, int p, int others) {
            int gain = gainOf(prison, law, p, others);
            return 10 * gain > prison.terms[ODDS] * fineOf(prison, law, p, others);
        }

        boolean comesToRest(Prison prison) {
            for (int p = 0; p < PEOPLE_ROOM; p++) {
                asked[p] = 0;
            }
            restOut = 0;
            boolean changes = true;
            for (int round = 1; round <= MOST_ROUNDS && changes; round++) {
                changes = false;
                for (int p = 0; p < prison.people; p++) {
                    int is = staysOnceAsked(prison, p, Integer.bitCount(withBit(restOut, p, 0)));
                    changes |= is != bitOf(restOut, p);
                    restOut = withBit(restOut, p, is);
                }
                restRounds = round;
            }
            return !changes;
        }

        int votersFor(Prison prison, Text law) {
            Text force = prison.lawOf(prison.inForce);
            int bits = 0;
            for (int p = 0; p < prison.people; p++) {
                if (allWatchesCost(prison, law, p) < allWatchesCost(prison, force, p)) {
                    bits |= 1 << p;
                }
            }
            return bits;
        }

        private int allWatchesCost(Prison prison, Text law, int p) {
            int sum = 0;
            for (int watch = 0; watch < WATCHES; watch++) {
                sum += costOf(prison, law, p, watch, 0);
            }
            return sum;
        }

        /** Fifty rounds ask the same again and again, but the LAW is worked out once only. */
        private int staysOnceAsked(Prison prison, int p, int others) {
            if (bitOf(asked[p], others) == 0) {
                boolean is = staysOut(prison, prison.lawOf(prison.inForce), p, others);
                asked[p] = withBit(asked[p], others, 1);
                stays[p] = withBit(stays[p], others, is ? 1 : 0);
            }
            return bitOf(stays[p], others);
        }

        private void setWords(Prison prison, int p, int watch, int before, int others) {
            int[] words = machine.words;
            words[0] = p;
            words[1] = prison.years[p];
            words[2] = prison.want[p];
            words[3] = Integer.bitCount(prison.keys[p]);
            words[4] = watch;
            words[5] = before;
            words[6] = others;
            words[HOUR_WORD - FIRST_LAW_WORD] = prison.terms[HOUR];
            words[8] = prison.terms[ODDS];
            words[9] = prison.terms[MOOD];
        }

        /** What the last CLAUSE of that kind that HOLDS tells, 0 .. 999, or what is so without one. */
        private int told(Prison prison, Text law, int kind, int without) {
            if (law == null) {
                return without;
            }
            for (int clause = law.clauses - 1; clause >= 0; clause--) {
                if (law.kindOf(clause) == kind
                        && machine.works(prison, law, clause, TEST_PART) && machine.value == 1
                        && machine.works(prison, law, clause, 0)) {
                    return Math.max(0, Math.min(MOST_TOLD, machine.value));
                }
            }
            return without;
        }
    }

    /** Runs ORDERS wholly or not at all. */
    private static final class Sergeant {
        int done;
        int stoppedAt = NONE;
        private int found;
        private final Prison aheadPrison = new Prison();
        private final Goings aheadGoings = new Goings();
        private final int[] sums = new int[SUM_ROOM];

        boolean obeys(Prison prison, Goings goings, Text text, Machine machine) {
            aheadPrison.copyFrom(prison);
            aheadGoings.copyFrom(goings);
            done = 0;
            found = NONE;
            for (int clause = 0; clause < text.clauses; clause++) {
                if (!obeysClause(prison, goings, text, clause, machine)) {
                    prison.copyFrom(aheadPrison);
                    goings.copyFrom(aheadGoings);
                    stoppedAt = clause;
                    return false;
                }
            }
            return true;
        }

        private boolean obeysClause(Prison prison, Goings goings, Text text, int clause, Machine machine) {
            int kind = text.kindOf(clause);
            for (int time = 0; time < text.timesOf(clause); time++) {
                setWords(prison, machine);
                if (machine.works(prison, text, clause, TEST_PART) && machine.value == 1) {
                    if (!worksSums(prison, text, clause, machine) || !doesOne(prison, goings, kind)) {
                        return false;
                    }
                    done++;
                }
            }
            return true;
        }

        private void setWords(Prison prison, Machine machine) {
            machine.words[HOUR_WORD - FIRST_LAW_WORD] = prison.terms[HOUR];
            machine.words[BREAD_WORD - FIRST_LAW_WORD] = prison.bread;
            machine.words[INSIDE_WORD - FIRST_LAW_WORD] = prison.insideAt(prison.place);
            machine.words[DONE_WORD - FIRST_LAW_WORD] = done;
            machine.words[FOUND_WORD - FIRST_LAW_WORD] = found;
        }

        private boolean worksSums(Prison prison, Text text, int clause, Machine machine) {
            int kind = text.kindOf(clause);
            int many = kind == GO ? 2 : kind == GIVE ? SUM_ROOM : 0;
            for (int i = 0; i < many; i++) {
                if (!machine.works(prison, text, clause, i)) {
                    return false;
                }
                sums[i] = machine.value;
            }
            return true;
        }

        private boolean doesOne(Prison prison, Goings goings, int kind) {
            switch (kind) {
                case GO:
                    return goings.walk(prison, sums[0], sums[1]) >= 0;
                case GIVE:
                    return goings.hand(prison, sums[0], sums[1], sums[2]) >= 0;
                case INSPECT:
                    int inside = goings.look(prison);
                    found = inside;
                    return inside >= 0;
                default:
                    return goings.hourOn(prison) >= 0;
            }
        }
    }

    /** Ways out by DOORS, and who keeps them. */
    private static final class Doors {
        final int[] keepers = new int[MOST_PARTED];
        private final int[] doorsAt = new int[PLACE_ROOM];
        private final int[] between = new int[PLACE_ROOM];

        int fewestToOutside(Prison prison, int p) {
            int usable = usableDoors(prison, p);
            int reached = 1 << prison.place[p];
            for (int steps = 0; steps < PLACE_ROOM; steps++) {
                if (bitOf(reached, OUTSIDE) == 1) {
                    return steps;
                }
                reached = oneDoorOn(prison, usable, reached);
            }
            return NONE;
        }

        /**
         * The fewest DOORS that part two PLACES are those between some PLACES that hold the one and the
         * rest that hold the other. The own PLACE and any of those between are tried, one PLACE changed at
         * a time (a Gray code): the DOORS with one end on each side change by those of that PLACE.
         */
        int fewestWalls(Prison prison, int p) {
            findDoorsAt(prison, usableDoors(prison, p));
            int many = findBetween(prison.place[p]);
            int parting = doorsAt[prison.place[p]];
            int best = parting;
            for (int i = 1; i < 1 << many; i++) {
                parting ^= doorsAt[between[Integer.numberOfTrailingZeros(i)]];
                int fewer = Integer.bitCount(parting) - Integer.bitCount(best);
                if (fewer < 0 || fewer == 0 && parting < best) {
                    best = parting;
                }
            }
            return best;
        }

        /** All rows, less those of one KEEPER alone and those of both of two who TRUST each other. */
        int waysToPart(Prison prison, int n) {
            int rows = 1;
            for (int i = 0; i < n && i < MOST_PARTED; i++) {
                rows *= prison.people;
            }
            int pairs = 0;
            for (int p = 0; p < prison.people; p++) {
                for (int q = p + 1; q < prison.people; q++) {
                    pairs += trustEachOther(prison, p, q) ? 1 : 0;
                }
            }
            return rows - prison.people - pairs * ((1 << n) - 2);
        }

        /** Asked only where there is a way: it is among the rows in which only the last two DOORS' KEEPERS are not 0. */
        void partFirst(Prison prison, int n) {
            for (int i = 0; i < MOST_PARTED; i++) {
                keepers[i] = 0;
            }
            if (!within(n, 2, MOST_PARTED)) {
                return;
            }
            for (int p = 0; p < prison.people; p++) {
                for (int q = 0; q < prison.people; q++) {
                    keepers[n - 2] = p;
                    keepers[n - 1] = q;
                    if (isParted(prison, n)) {
                        return;
                    }
                }
            }
        }

        private boolean isParted(Prison prison, int n) {
            int set = 0;
            for (int i = 0; i < n; i++) {
                set |= 1 << keepers[i];
            }
            int many = Integer.bitCount(set);
            if (many != 2) {
                return many > 2;
            }
            int low = Integer.numberOfTrailingZeros(set);
            int high = Integer.numberOfTrailingZeros(withBit(set, low, 0));
            return !trustEachOther(prison, low, high);
        }

        private static boolean trustEachOther(Prison prison, int p, int q) {
            return bitOf(prison.trusts[p], q) == 1 && bitOf(prison.trusts[q], p) == 1;
        }

        private static int usableDoors(Prison prison, int p) {
            int usable = prison.keys[p];
            for (int q = 0; q < prison.people; q++) {
                if (bitOf(prison.trusts[q], p) == 1) {
                    usable |= prison.keys[q];
                }
            }
            return usable & ~prison.walls;
        }

        private static int oneDoorOn(Prison prison, int usable, int reached) {
            int on = reached;
            for (int d = 0; d < prison.doors; d++) {
                boolean touches = bitOf(reached, prison.one[d]) == 1 || bitOf(reached, prison.other[d]) == 1;
                if (touches && bitOf(usable, d) == 1) {
                    on |= 1 << prison.one[d] | 1 << prison.other[d];
                }
            }
            return on;
        }

        private void findDoorsAt(Prison prison, int usable) {
            for (int place = 0; place < PLACE_ROOM; place++) {
                doorsAt[place] = 0;
            }
            for (int d = 0; d < prison.doors; d++) {
                if (bitOf(usable, d) == 1) {
                    doorsAt[prison.one[d]] |= 1 << d;
                    doorsAt[prison.other[d]] |= 1 << d;
                }
            }
        }

        /** PLACES that have DOORS and are neither OUTSIDE nor the own one: the others part nothing. */
        private int findBetween(int own) {
            int many = 0;
            for (int place = OUTSIDE + 1; place < PLACE_ROOM; place++) {
                if (place != own && doorsAt[place] != 0) {
                    between[many] = place;
                    many++;
                }
            }
            return many;
        }
    }

    /**
     * ROTAS, from the last WATCH to the first. What is left to do depends only on who kept how many WATCHES
     * already, in whatever order (a hand), and on who kept the latest: that is far fewer than there are ROTAS.
     */
    private static final class Rota {
        /** Hands of up to four WATCHES, and those of them of up to three. */
        private static final int HANDS = 495;
        private static final int SHORT_HANDS = 165;
        private static final int FAR = 1000000;

        int cost;
        int many;
        final int[] row = new int[WATCHES];
        private final int[] joined = new int[SHORT_HANDS * PEOPLE_ROOM];
        private final int[] sizes = new int[HANDS];
        private final int[] highest = new int[HANDS];
        private final int[] shares = new int[HANDS];
        /** Of a hand and the one who keeps the WATCH behind it: what all behind that costs, in how many ways. */
        private final int[] leastBehind = new int[HANDS * PEOPLE_ROOM];
        private final int[] waysBehind = new int[HANDS * PEOPLE_ROOM];
        private final int[] price = new int[WATCHES * 2 * PEOPLE_ROOM];
        private int pick;

        /** Hands are numbered by how many WATCHES they have, then as rows in rising order. */
        Rota() {
            int[] without = new int[HANDS];
            int made = 1;
            for (int hand = 0; hand < SHORT_HANDS; hand++) {
                for (int p = 0; p < PEOPLE_ROOM; p++) {
                    int at = hand * PEOPLE_ROOM + p;
                    if (p < highest[hand]) {
                        int beside = joined[without[hand] * PEOPLE_ROOM + p];
                        joined[at] = joined[beside * PEOPLE_ROOM + highest[hand]];
                    } else if (made < HANDS) {
                        joined[at] = made;
                        without[made] = hand;
                        sizes[made] = sizes[hand] + 1;
                        highest[made] = p;
                        shares[made] = shares[hand] + oneShare(p);
                        made++;
                    }
                }
            }
        }

        void plan(Prison prison, Judge judge) {
            findPrices(prison, judge);
            for (int hand = HANDS - 1; hand >= 0; hand--) {
                if (highest[hand] < prison.people) {
                    weighBehind(prison, hand);
                }
            }
            many = 0;
            if (prison.people > 0) {
                weigh(prison, 0, 0, NONE);
            }
            if (many > 0) {
                findRow(prison);
            }
        }

        /** NONE is the price of a WATCH one may not keep. */
        private void findPrices(Prison prison, Judge judge) {
            Text law = prison.lawOf(prison.inForce);
            for (int p = 0; p < prison.people; p++) {
                for (int watch = 0; watch < WATCHES; watch++) {
                    for (int before = 0; before < 2; before++) {
                        boolean barred = judge.isBarred(prison, law, p, watch, before);
                        int paid = barred ? NONE : judge.costOf(prison, law, p, watch, before);
                        price[(watch * 2 + before) * PEOPLE_ROOM + p] = paid;
                    }
                }
            }
        }

        private void weighBehind(Prison prison, int hand) {
            for (int latest = 0; latest < prison.people; latest++) {
                weigh(prison, shares[hand] + oneShare(latest), handWith(hand, latest), latest);
                leastBehind[hand * PEOPLE_ROOM + latest] = cost;
                waysBehind[hand * PEOPLE_ROOM + latest] = many;
            }
        }

        /** The cost, how many and whom to pick first, from the WATCH on that comes behind these shares. */
        private void weigh(Prison prison, int held, int hand, int latest) {
            int watch = hand == NONE ? WATCHES - 1 : sizes[hand];
            int pricesAt = watch * 2 * PEOPLE_ROOM;
            int mostTimes = prison.terms[MOST];
            cost = FAR;
            many = 0;
            pick = 0;
            for (int p = 0; p < prison.people; p++) {
                int paid = price[p == latest ? pricesAt + PEOPLE_ROOM + p : pricesAt + p];
                if (paid != NONE && (held >> 3 * p & 7) < mostTimes) {
                    int total = hand == NONE ? paid : paid + leastBehind[hand * PEOPLE_ROOM + p];
                    many += hand == NONE ? 1 : waysBehind[hand * PEOPLE_ROOM + p];
                    if (total < cost) {
                        cost = total;
                        pick = p;
                    }
                }
            }
        }

        private void findRow(Prison prison) {
            int leastCost = cost;
            int allWays = many;
            int hand = 0;
            int held = 0;
            int latest = NONE;
            for (int watch = 0; watch < WATCHES; watch++) {
                weigh(prison, held, hand, latest);
                latest = pick;
                row[watch] = latest;
                held += oneShare(latest);
                hand = handWith(hand, latest);
            }
            cost = leastCost;
            many = allWays;
        }

        /** NONE for the hands of five WATCHES: behind them only the last WATCH is left, so they need no number. */
        private int handWith(int hand, int p) {
            return hand >= 0 && hand < SHORT_HANDS ? joined[hand * PEOPLE_ROOM + p] : NONE;
        }

        private static int oneShare(int p) {
            return 1 << 3 * p;
        }
    }

    /** WHO was out, whom to count NEXT, and VOTES counted again. */
    private static final class Counting {
        private static final int ALIKE_SPAN = PEOPLE_ROOM + 1;

        final int[] set = new int[1 << PEOPLE_ROOM];
        int sets;
        int bestGroup;
        int bestLeft;
        private final int[] alike = new int[(1 << PEOPLE_ROOM) * ALIKE_SPAN];
        private final int[] sidesAt = new int[PLACE_ROOM];

        void gather(Prison prison) {
            sets = 0;
            for (int out = 0; out <= prison.everybody() && out < set.length; out++) {
                if (fits(prison, out)) {
                    set[sets] = out;
                    sets++;
                }
            }
        }

        void choose(Prison prison) {
            spreadSets(prison);
            bestGroup = NONE;
            bestLeft = sets + 1;
            for (int group = 1; group <= prison.everybody() && group < set.length; group++) {
                int left = 0;
                for (int inside = 0; inside <= prison.people; inside++) {
                    left = Math.max(left, alike[group * ALIKE_SPAN + inside]);
                }
                if (left < bestLeft) {
                    bestLeft = left;
                    bestGroup = group;
                }
            }
        }

        /** Each PLACE alone may turn the side or not, because the FORGER was in one only: so the fewest are those that may. */
        int placesToRecount(Prison prison, int f) {
            int lead = 2 * Integer.bitCount(prison.votes & prison.everybody()) - prison.people;
            int side = lead < 0 ? 0 : 1;
            for (int place = 0; place < PLACE_ROOM; place++) {
                sidesAt[place] = 0;
            }
            for (int p = 0; p < prison.people; p++) {
                if (lead == 0 || bitOf(prison.votes, p) == side) {
                    sidesAt[prison.place[p]]++;
                }
            }
            int bits = 0;
            for (int place = 0; place < PLACE_ROOM; place++) {
                int turned = Math.min(f, sidesAt[place]);
                if (turned > 0 && 2 * turned >= Math.abs(lead)) {
                    bits |= 1 << place;
                }
            }
            return bits;
        }

        private static boolean fits(Prison prison, int out) {
            for (int i = 0; i < prison.counts; i++) {
                if (Integer.bitCount(prison.groups[i] & ~out) != prison.insides[i]) {
                    return false;
                }
            }
            return true;
        }

        /**
         * How many sets have so many inside, for all GROUPS at once: at first each set stands by itself, by who is
         * inside; then, PRISONER by PRISONER, who is inside gives way to who is in the GROUP. (All GROUPS by all sets
         * would be some six times as long.)
         */
        private void spreadSets(Prison prison) {
            for (int i = 0; i < alike.length; i++) {
                alike[i] = 0;
            }
            for (int i = 0; i < sets; i++) {
                alike[(prison.everybody() & ~set[i]) * ALIKE_SPAN] = 1;
            }
            for (int p = 0; p < prison.people; p++) {
                for (int group = 0; group <= prison.everybody(); group++) {
                    if (bitOf(group, p) == 0) {
                        spreadOne(group * ALIKE_SPAN, withBit(group, p, 1) * ALIKE_SPAN, p + 1);
                    }
                }
            }
        }

        /** From those without and those with one: a GROUP without that one counts both alike, one with that one does not. */
        private void spreadOne(int without, int with, int most) {
            for (int inside = most; inside >= 0; inside--) {
                int outOnes = alike[without + inside];
                alike[without + inside] = outOnes + alike[with + inside];
                alike[with + inside] = inside > 0 ? outOnes + alike[with + inside - 1] : outOnes;
            }
        }
    }

    /** The latest NIGHTS. */
    private static final class Nights {
        private static final int DRAW_TIMES = 1103;
        private static final int DRAW_AND = 12345;
        private static final int DRAW_MODULO = 1000003;

        int people;
        int bread;
        final int[] place = new int[PEOPLE_ROOM];
        private int seed;

        int draw(Prison prison, int startSeed, int n) {
            seed = startSeed;
            people = prison.people;
            System.arraycopy(prison.place, 0, place, 0, PEOPLE_ROOM);
            int stock = prison.bread;
            int inspections = 0;
            int hours = Math.min(n, LAST_HOUR - prison.terms[HOUR]);
            for (int night = 0; night < hours; night++) {
                goSomewhere(prison);
                if (drawOf(10) < prison.terms[ODDS]) {
                    stock = prison.breadBehind(stock, prison.insideAt(place));
                    inspections++;
                }
            }
            bread = stock - prison.bread;
            return inspections;
        }

        private void goSomewhere(Prison prison) {
            int p = drawOf(prison.people);
            int d = drawOf(prison.doors);
            int to = prison.placeBeyond(p, d, place);
            if (to != NONE) {
                place[p] = to;
            }
        }

        private int drawOf(int m) {
            seed = (seed * DRAW_TIMES + DRAW_AND) % DRAW_MODULO;
            return m > 0 ? seed % m : 0;
        }
    }
}
