/** A court at which one may lie for a fee; DOC.md says what each call promises. */
public final class OathTill {
    public static final int NONE = -1;

    private static final int TRAYS = 4;
    private static final int TRAY_ROOM = 60;
    private static final int TAPE_ROOM = 900;
    private static final int FEED_BYTES = 20;
    private static final int TRIALS_BYTES = 300;
    private static final int MARKS = 3;
    private static final int PLACES = 5;
    private static final int PERSONS = 6;
    private static final int HOURS = 8;
    private static final int OATHS = 16;
    private static final int TOP_MILE = 60;
    private static final int TOP_SPEED = 60;
    private static final int TOP_RATE = 99;
    private static final int TOP_PURSE = 999;
    private static final int TOP_EARNED = 999;
    private static final int TOP_SAVED = 9999;
    private static final int TOP_SEED = 9999;
    private static final int TOP_SEEDS = 20;
    private static final int TOP_BID = 999999;
    private static final int TOP_ROUNDS = 99;

    private static final int FINE = 0;
    private static final int WRONG = 1;
    private static final int MISSING = 2;
    private static final int SHORT = 3;
    private static final int FULL = 4;
    private static final int BAD_NUMBER = 5;
    private static final int NO_SUCH = 6;
    private static final int CANNOT = 7;
    private static final int UNLIKE = 8;
    private static final int FAULTY = 9;

    private static final int STANDS = 0;
    private static final int VOID = 1;
    private static final int RECANTED = 2;

    private int status = FINE;
    private long fractionTop = 0;
    private long fractionBottom = 1;
    private final Tray[] trays = new Tray[TRAYS];
    private final byte[] tape = new byte[TAPE_ROOM];
    private int fed = 0;
    private final Court now = new Court();
    private final Court draft = new Court();
    private final Court[] marks = new Court[MARKS];
    private int marked = 0;
    private final Text text = new Text(tape);
    private final Reader reader = new Reader(text, now, draft);
    private final Stand stand = new Stand(now);
    private final Plan plan = new Plan(now, draft);
    private final Whereabouts whereabouts = new Whereabouts(now);
    private final Runner life = new Runner(now, now.trials);
    private final Runner dream = new Runner(draft, now.trials);
    private int lives = 0;

    public OathTill() {
        for (int i = 0; i < TRAYS; i++) {
            trays[i] = new Tray();
        }
        for (int i = 0; i < MARKS; i++) {
            marks[i] = new Court();
        }
    }

    public int status() {
        return status;
    }

    public long top() {
        return fractionTop;
    }

    public long bottom() {
        return fractionBottom;
    }

    private int give(int answer) {
        status = FINE;
        return answer;
    }

    private int refuse(int reason) {
        status = reason;
        return NONE;
    }

    private boolean agree() {
        status = FINE;
        return true;
    }

    private boolean deny(int reason) {
        status = reason;
        return false;
    }

    private static boolean within(int number, int low, int high) {
        return number >= low && number <= high;
    }

    private static long commonDivisor(long a, long b) {
        long big = a;
        long small = b;
        for (int turn = 0; turn < 100 && small != 0; turn++) {
            long rest = big % small;
            big = small;
            small = rest;
        }
        return big;
    }

    private void tellFraction(long over, long under) {
        long divisor = commonDivisor(over, under);
        if (divisor > 0) {
            fractionTop = over / divisor;
            fractionBottom = under / divisor;
        }
    }

    // ---- TRAYS

    private static boolean isTray(int tray) {
        return within(tray, 0, TRAYS - 1);
    }

    public boolean tray(int tray, int sort, int many) {
        if (!isTray(tray) || !within(sort, 0, 3) || !within(many, 0, TRAY_ROOM)) {
            return deny(WRONG);
        }
        trays[tray].lay(sort, many);
        return agree();
    }

    private int placeTrouble(int tray, int place) {
        if (!isTray(tray)) {
            return WRONG;
        }
        if (!trays[tray].laid) {
            return MISSING;
        }
        return within(place, 0, trays[tray].many - 1) ? FINE : SHORT;
    }

    public boolean write(int tray, int place, long v) {
        int trouble = placeTrouble(tray, place);
        if (trouble != FINE) {
            return deny(trouble);
        }
        trays[tray].put(place, v);
        return agree();
    }

    public long read(int tray, int place) {
        int trouble = placeTrouble(tray, place);
        if (trouble != FINE) {
            return refuse(trouble);
        }
        status = FINE;
        return trays[tray].row[place];
    }

    private int pourTrouble(int from, int place, int to, int at, int many) {
        if (!isTray(from) || !isTray(to) || place < 0 || at < 0 || many < 0) {
            return WRONG;
        }
        if (!trays[from].laid || !trays[to].laid) {
            return MISSING;
        }
        if (trays[from].sort != trays[to].sort) {
            return UNLIKE;
        }
        // what is left behind a place, so that no sum can run over
        boolean enough = many <= trays[from].many - place && many <= trays[to].many - at;
        return enough ? FINE : SHORT;
    }

    public boolean pour(int from, int place, int to, int at, int many) {
        int trouble = pourTrouble(from, place, to, at, many);
        if (trouble != FINE) {
            return deny(trouble);
        }
        System.arraycopy(trays[from].row, place, trays[to].row, at, many);
        return agree();
    }

    // ---- texts

    private void append(int four) {
        for (int shift = 24; shift >= 0; shift -= 8) {
            if (fed < TAPE_ROOM) {
                tape[fed] = (byte) (four >> shift);
                fed++;
            }
        }
    }

    public int feed(int a, int b, int c, int d, int e) {
        if (fed + FEED_BYTES > TAPE_ROOM) {
            return NONE;
        }
        append(a);
        append(b);
        append(c);
        append(d);
        append(e);
        return fed;
    }

    public int court(int n) {
        if (!within(n, 0, fed)) {
            return refuse(WRONG);
        }
        fed = 0;
        if (!reader.takeCourt(n)) {
            return refuse(FAULTY);
        }
        now.copyAll(draft);
        return give(now.persons);
    }

    public int trials(int n) {
        if (!within(n, 0, fed) || n > TRIALS_BYTES) {
            return refuse(WRONG);
        }
        fed = 0;
        if (!reader.takeTrials(n)) {
            return refuse(FAULTY);
        }
        now.trials.copyAll(draft.trials);
        return give(now.trials.steps);
    }

    public int fault(int what) {
        if (what == 0) {
            return text.fault;
        }
        return what == 1 ? text.faultPlace : NONE;
    }

    public int told(int what) {
        switch (what) {
            case 0: return give(now.places);
            case 1: return give(now.persons);
            case 2: return give(now.count);
            case 3: return give(now.inState(STANDS));
            case 4: return give(now.lies());
            case 5: return give(now.inState(VOID));
            case 6: return give(now.refunds());
            case 7: return give(now.inState(RECANTED));
            case 8: return give(now.base);
            case 9: return give(now.more);
            case 10: return give(now.speed);
            case 11: return give(now.till);
            default: return refuse(WRONG);
        }
    }

    public int mile(int place) {
        return now.isPlace(place) ? give(now.miles[place]) : refuse(WRONG);
    }

    public int person(int person, int what) {
        if (!now.isPerson(person)) {
            return refuse(WRONG);
        }
        Person who = now.people[person];
        switch (what) {
            case 0: return give(who.purse);
            case 1: return give(who.child ? 1 : 0);
            case 2: return give(who.bishop ? 1 : 0);
            case 3: return who.twin == NONE ? refuse(NO_SUCH) : give(who.twin);
            case 4: return give(now.swornBy(person));
            case 5: return give(now.spentBy(person));
            default: return refuse(WRONG);
        }
    }

    private boolean isCouple(int a, int b) {
        return now.isPerson(a) && now.isPerson(b) && a != b;
    }

    public int knows(int a, int b) {
        if (!isCouple(a, b)) {
            return refuse(WRONG);
        }
        return give(now.people[a].friends >> b & 1);
    }

    public int kin(int person) {
        return now.isPerson(person) ? give(now.circleOf(person)) : refuse(WRONG);
    }

    public int known(int person, int hour) {
        if (!now.isPerson(person) || !Court.isHour(hour)) {
            return refuse(WRONG);
        }
        int place = now.people[person].truth[hour];
        return place == NONE ? refuse(NO_SUCH) : give(place);
    }

    public int oath(int oath, int what) {
        if (!now.isOath(oath)) {
            return refuse(WRONG);
        }
        Oath one = now.oaths[oath];
        switch (what) {
            case 0: return give(one.witness);
            case 1: return give(one.person);
            case 2: return give(one.place);
            case 3: return give(one.hour);
            case 4: return give(one.price);
            case 5: return give(one.state);
            case 6: return give(one.refunded ? 1 : 0);
            case 7: return give(now.isTrue(one) ? 1 : 0);
            default: return refuse(WRONG);
        }
    }

    // ---- swearing

    /** Whether the numbers mean something; if so the WITNESS is asked of the PERSON. */
    private boolean isAsked(int witness, int person, int place, int hour) {
        if (!now.isPerson(witness) || !now.canBeSaid(person, place, hour)) {
            return false;
        }
        stand.ask(witness, person);
        return true;
    }

    public int why(int witness, int person, int place, int hour) {
        return isAsked(witness, person, place, hour) ? give(stand.hindrance(place, hour)) : refuse(WRONG);
    }

    public int fee(int witness, int person, int place, int hour) {
        return isAsked(witness, person, place, hour) ? give(stand.price(place, hour)) : refuse(WRONG);
    }

    public int gainsaid(int witness, int person, int place, int hour) {
        return isAsked(witness, person, place, hour) ? give(stand.against(place, hour)) : refuse(WRONG);
    }

    public int backed(int person, int place, int hour) {
        if (!now.canBeSaid(person, place, hour)) {
            return refuse(WRONG);
        }
        return give(now.sayingSo(person, place, hour));
    }

    public int voids(int witness, int person, int place, int hour) {
        if (!isAsked(witness, person, place, hour)) {
            return refuse(WRONG);
        }
        if (stand.hindrance(place, hour) != 0) {
            return refuse(CANNOT);
        }
        return give(Integer.bitCount(now.struckBy(witness, person, place, hour)));
    }

    public int swear(int witness, int person, int place, int hour) {
        if (!isAsked(witness, person, place, hour)) {
            return refuse(WRONG);
        }
        if (stand.hindrance(place, hour) != 0) {
            return refuse(CANNOT);
        }
        return give(now.enter(witness, person, place, hour, stand.price(place, hour)));
    }

    public int find(int person, int place, int hour) {
        if (!now.canBeSaid(person, place, hour)) {
            return refuse(WRONG);
        }
        return give(now.reveal(person, place, hour));
    }

    public int recant(int oath) {
        if (!now.isOath(oath)) {
            return refuse(WRONG);
        }
        if (now.oaths[oath].state != STANDS) {
            return refuse(CANNOT);
        }
        now.oaths[oath].state = RECANTED;
        return give(now.inState(STANDS));
    }

    public int earn(int person, int much) {
        if (!now.isPerson(person) || !within(much, 1, TOP_EARNED)) {
            return refuse(WRONG);
        }
        Person who = now.people[person];
        if (who.purse + much > TOP_SAVED) {
            return refuse(CANNOT);
        }
        who.purse += much;
        return give(who.purse);
    }

    public boolean meet(int a, int b) {
        if (!isCouple(a, b)) {
            return deny(WRONG);
        }
        if (now.areFriends(a, b)) {
            return deny(CANNOT);
        }
        now.befriend(a, b);
        return agree();
    }

    public boolean ride(int speed) {
        if (!within(speed, 0, TOP_SPEED)) {
            return deny(WRONG);
        }
        now.speed = speed;
        return agree();
    }

    // ---- what FITS

    public int fits(int a, int b) {
        if (!now.isOath(a) || !now.isOath(b)) {
            return refuse(WRONG);
        }
        Oath one = now.oaths[a];
        Oath other = now.oaths[b];
        boolean fit = one.person != other.person || now.agreeing(one, other);
        return give(fit ? 1 : 0);
    }

    public int road(int from, int to) {
        if (!now.isPlace(from) || !now.isPlace(to)) {
            return refuse(WRONG);
        }
        int hours = now.hoursBetween(from, to);
        return hours == NONE ? refuse(NO_SUCH) : give(hours);
    }

    private boolean isPersonsHour(int person, int hour) {
        return now.isPerson(person) && Court.isHour(hour);
    }

    public int canBe(int person, int hour) {
        if (!isPersonsHour(person, hour)) {
            return refuse(WRONG);
        }
        return give(whereabouts.fitting(person, hour));
    }

    public int ways(int person, boolean oaths) {
        if (!now.isPerson(person)) {
            return refuse(WRONG);
        }
        return give(whereabouts.countWays(person, oaths));
    }

    public int reach(int person, int hour, boolean oaths) {
        if (!isPersonsHour(person, hour)) {
            return refuse(WRONG);
        }
        return give(whereabouts.onSomeWay(person, hour, oaths));
    }

    public int mostTrue(int person) {
        if (!now.isPerson(person)) {
            return refuse(WRONG);
        }
        return give(Integer.bitCount(whereabouts.largestFit(person)));
    }

    public int mostTrueSet(int person) {
        if (!now.isPerson(person)) {
            return refuse(WRONG);
        }
        return give(whereabouts.largestFit(person));
    }

    public int clashes(int person) {
        return now.isPerson(person) ? give(now.clashesOf(person)) : refuse(WRONG);
    }

    public int doubt(int person) {
        return now.isPerson(person) ? give(now.doubtOf(person)) : refuse(WRONG);
    }

    public int believed(int person, int hour) {
        if (!isPersonsHour(person, hour)) {
            return refuse(WRONG);
        }
        int place = now.mostSaid(person, hour);
        return place == NONE ? refuse(NO_SUCH) : give(place);
    }

    // ---- plans

    public int alibi(int person, int place, int hour, int n) {
        if (!now.canBeSaid(person, place, hour) || !within(n, 1, PERSONS)) {
            return refuse(WRONG);
        }
        int fees = plan.seekAlibi(person, place, hour, n);
        return fees == NONE ? refuse(NO_SUCH) : give(fees);
    }

    public int alibiBy(int what) {
        if (!within(what, 0, 1)) {
            return refuse(WRONG);
        }
        if (!plan.hasAlibi) {
            return refuse(NO_SUCH);
        }
        return give(what == 0 ? plan.alibiPlace : plan.alibiSet);
    }

    public int call(int witness, int person) {
        if (!now.isPerson(witness) || !now.isPerson(person)) {
            return refuse(WRONG);
        }
        int struck = plan.seekCall(witness, person);
        return struck == NONE ? refuse(NO_SUCH) : give(struck);
    }

    public int callBy(int what) {
        if (!within(what, 0, 2)) {
            return refuse(WRONG);
        }
        if (!plan.hasCall) {
            return refuse(NO_SUCH);
        }
        if (what == 0) {
            return give(plan.callPlace);
        }
        return give(what == 1 ? plan.callHour : plan.callPrice);
    }

    public int sayable(int witness, int person) {
        if (!now.isPerson(witness) || !now.isPerson(person)) {
            return refuse(WRONG);
        }
        stand.ask(witness, person);
        return give(stand.countSayable());
    }

    public int dearest(int witness, int person) {
        if (!now.isPerson(witness) || !now.isPerson(person)) {
            return refuse(WRONG);
        }
        stand.ask(witness, person);
        int price = stand.highestPrice();
        return price == NONE ? refuse(NO_SUCH) : give(price);
    }

    public int liar() {
        int most = 0;
        int first = NONE;
        for (int i = 0; i < now.persons; i++) {
            int lies = now.standingBy(i, false);
            if (lies > most) {
                most = lies;
                first = i;
            }
        }
        return first == NONE ? refuse(NO_SUCH) : give(first);
    }

    public int doubted() {
        int most = 0;
        int first = NONE;
        for (int i = 0; i < now.persons; i++) {
            int doubt = now.doubtOf(i);
            if (doubt > most) {
                most = doubt;
                first = i;
            }
        }
        return first == NONE ? refuse(NO_SUCH) : give(first);
    }

    public boolean kept() {
        int paid = now.paid();
        if (paid <= 0) {
            return deny(NO_SUCH);
        }
        tellFraction(now.till, paid);
        return agree();
    }

    public int word(int witness, int what) {
        if (!now.isPerson(witness)) {
            return refuse(WRONG);
        }
        switch (what) {
            case 0: return give(now.standingBy(witness, true));
            case 1: return give(now.standingBy(witness, false));
            case 2: return give(now.voidBy(witness));
            default: return refuse(WRONG);
        }
    }

    public int liars(int person) {
        return now.isPerson(person) ? give(now.liarsAbout(person)) : refuse(WRONG);
    }

    // ---- auctions

    private int bidTrouble(int tray, int n) {
        if (!isTray(tray) || !within(n, 1, TRAY_ROOM)) {
            return WRONG;
        }
        if (!trays[tray].laid) {
            return MISSING;
        }
        if (n > trays[tray].many) {
            return SHORT;
        }
        return trays[tray].allWithin(n, 0, TOP_BID) ? FINE : BAD_NUMBER;
    }

    public int auction(int tray, int n) {
        int trouble = bidTrouble(tray, n);
        if (trouble != FINE) {
            return refuse(trouble);
        }
        int place = trays[tray].highest(n);
        return trays[tray].isTied(n, place) ? refuse(NO_SUCH) : give(place);
    }

    public int hammer(int tray, int n) {
        int trouble = bidTrouble(tray, n);
        if (trouble != FINE) {
            return refuse(trouble);
        }
        return give((int) trays[tray].secondBid(n, trays[tray].highest(n)));
    }

    // ---- TRIALS

    public int live(int seed) {
        if (!within(seed, 0, TOP_SEED)) {
            return refuse(WRONG);
        }
        if (!now.trials.taken) {
            return refuse(NO_SUCH);
        }
        lives++;
        life.go(seed, lives);
        return give(life.steps);
    }

    public int lived(int what) {
        if (!within(what, 0, 4)) {
            return refuse(WRONG);
        }
        if (lives == 0) {
            return refuse(NO_SUCH);
        }
        switch (what) {
            case 0: return give(life.missed);
            case 1: return give(life.sworn);
            case 2: return give(now.voidOfLife(lives));
            case 3: return give(life.fees);
            default: return give(life.left ? 1 : 0);
        }
    }

    public boolean mean(int seed, int many) {
        if (!within(seed, 0, TOP_SEED) || !within(many, 1, TOP_SEEDS) || seed + many - 1 > TOP_SEED) {
            return deny(WRONG);
        }
        if (!now.trials.taken) {
            return deny(NO_SUCH);
        }
        long sum = 0;
        for (int i = 0; i < many; i++) {
            draft.copyCase(now);
            dream.go(seed + i, 0);
            sum += draft.till;
        }
        tellFraction(sum, many);
        return agree();
    }

    // ---- MARKS

    public int mark() {
        if (marked >= MARKS) {
            return refuse(FULL);
        }
        marks[marked].copyAll(now);
        marked++;
        return give(marked);
    }

    public int undo() {
        if (marked <= 0) {
            return refuse(NO_SUCH);
        }
        marked--;
        now.copyAll(marks[marked]);
        return give(marked);
    }

    /** A TRAY: MISSING till it is laid. */
    private static final class Tray {
        boolean laid = false;
        int sort = 0;
        int many = 0;
        final long[] row = new long[TRAY_ROOM];

        void lay(int newSort, int newMany) {
            laid = true;
            sort = newSort;
            many = newMany;
            for (int i = 0; i < TRAY_ROOM; i++) {
                row[i] = 0;
            }
        }

        void put(int place, long v) {
            switch (sort) {
                case 0: row[place] = (byte) v; break;
                case 1: row[place] = (short) v; break;
                case 2: row[place] = (int) v; break;
                default: row[place] = v; break;
            }
        }

        boolean allWithin(int n, long low, long high) {
            for (int i = 0; i < n && i < many; i++) {
                if (row[i] < low || row[i] > high) {
                    return false;
                }
            }
            return true;
        }

        int highest(int n) {
            int best = 0;
            for (int i = 1; i < n && i < many; i++) {
                if (row[i] > row[best]) {
                    best = i;
                }
            }
            return best;
        }

        /** Whether another bids as much as the first of the highest. */
        boolean isTied(int n, int winner) {
            for (int i = winner + 1; i < n && i < many; i++) {
                if (row[i] == row[winner]) {
                    return true;
                }
            }
            return false;
        }

        long secondBid(int n, int winner) {
            long second = 0;
            for (int i = 0; i < n && i < many; i++) {
                if (i != winner && row[i] > second) {
                    second = row[i];
                }
            }
            return second;
        }
    }

    /** A PERSON: what the COURT told of it, and what became of its PURSE, its acquaintance, its HOURS. */
    private static final class Person {
        long name = 0;
        int purse = 0;
        boolean child = false;
        boolean bishop = false;
        int twin = NONE;
        int friends = 0;
        final int[] truth = new int[HOURS];

        void begin(long newName) {
            name = newName;
            purse = 0;
            child = false;
            bishop = false;
            twin = NONE;
            friends = 0;
            for (int h = 0; h < HOURS; h++) {
                truth[h] = NONE;
            }
        }

        void copy(Person other) {
            name = other.name;
            purse = other.purse;
            child = other.child;
            bishop = other.bishop;
            twin = other.twin;
            friends = other.friends;
            System.arraycopy(other.truth, 0, truth, 0, HOURS);
        }
    }

    /** An OATH; life is the number of the live() that swore it, 0 for swear(). */
    private static final class Oath {
        int witness = 0;
        int person = 0;
        int place = 0;
        int hour = 0;
        int price = 0;
        int state = STANDS;
        boolean refunded = false;
        int life = 0;

        void copy(Oath other) {
            witness = other.witness;
            person = other.person;
            place = other.place;
            hour = other.hour;
            price = other.price;
            state = other.state;
            refunded = other.refunded;
            life = other.life;
        }

        boolean standsOf(int someone) {
            return state == STANDS && person == someone;
        }

        boolean standsOf(int someone, int when) {
            return state == STANDS && person == someone && hour == when;
        }
    }

    /** The COURT with all that became of it. */
    private static final class Court {
        int places = 0;
        final int[] miles = new int[PLACES];
        final long[] placeNames = new long[PLACES];
        int persons = 0;
        final Person[] people = new Person[PERSONS];
        int base = 5;
        int more = 2;
        int speed = 10;
        int till = 0;
        int count = 0;
        final Oath[] oaths = new Oath[OATHS];
        final Trials trials = new Trials();

        Court() {
            for (int i = 0; i < PERSONS; i++) {
                people[i] = new Person();
            }
            for (int i = 0; i < OATHS; i++) {
                oaths[i] = new Oath();
            }
        }

        void clear() {
            places = 0;
            persons = 0;
            base = 5;
            more = 2;
            speed = 10;
            till = 0;
            count = 0;
            trials.clear();
        }

        void copyAll(Court other) {
            copyCase(other);
            trials.copyAll(other.trials);
        }

        /** All but the TRIALS. */
        void copyCase(Court other) {
            places = other.places;
            persons = other.persons;
            base = other.base;
            more = other.more;
            speed = other.speed;
            till = other.till;
            count = other.count;
            System.arraycopy(other.miles, 0, miles, 0, PLACES);
            System.arraycopy(other.placeNames, 0, placeNames, 0, PLACES);
            for (int i = 0; i < persons && i < PERSONS; i++) {
                people[i].copy(other.people[i]);
            }
            for (int i = 0; i < count && i < OATHS; i++) {
                oaths[i].copy(other.oaths[i]);
            }
        }

        /** Takes back what swearing alone changed since copyCase(other). */
        void unswear(Court other) {
            till = other.till;
            count = other.count;
            for (int i = 0; i < persons && i < PERSONS; i++) {
                people[i].purse = other.people[i].purse;
            }
            for (int i = 0; i < count && i < OATHS; i++) {
                oaths[i].state = other.oaths[i].state;
            }
        }

        boolean isPlace(int place) {
            return place >= 0 && place < places;
        }

        boolean isPerson(int person) {
            return person >= 0 && person < persons;
        }

        boolean isOath(int oath) {
            return oath >= 0 && oath < count;
        }

        static boolean isHour(int hour) {
            return hour >= 0 && hour < HOURS;
        }

        boolean canBeSaid(int person, int place, int hour) {
            return isPerson(person) && isPlace(place) && isHour(hour);
        }

        int placeNamed(long name) {
            for (int i = 0; i < places; i++) {
                if (placeNames[i] == name) {
                    return i;
                }
            }
            return NONE;
        }

        int personNamed(long name) {
            for (int i = 0; i < persons; i++) {
                if (people[i].name == name) {
                    return i;
                }
            }
            return NONE;
        }

        boolean areFriends(int a, int b) {
            return (people[a].friends >> b & 1) != 0;
        }

        void befriend(int a, int b) {
            people[a].friends |= 1 << b;
            people[b].friends |= 1 << a;
        }

        int circleOf(int person) {
            int circle = 1 << person;
            // each round brings in at least one more, or none is left
            for (int round = 0; round < PERSONS; round++) {
                for (int i = 0; i < persons; i++) {
                    if ((circle >> i & 1) != 0) {
                        circle |= people[i].friends;
                    }
                }
            }
            return circle;
        }

        boolean isTrueOf(int person, int place, int hour) {
            return people[person].truth[hour] == place;
        }

        boolean isTrue(Oath oath) {
            return people[oath.person].truth[oath.hour] == oath.place;
        }

        boolean isStandingLie(Oath oath) {
            return oath.state == STANDS && people[oath.person].truth[oath.hour] != oath.place;
        }

        boolean fitting(int place, int hour, int otherPlace, int otherHour) {
            if (hour == otherHour) {
                return place == otherPlace;
            }
            // squares, so that it does not matter which way and which HOUR comes first
            int way = miles[place] - miles[otherPlace];
            int room = speed * (hour - otherHour);
            return way * way <= room * room;
        }

        boolean agreeing(Oath one, Oath other) {
            return fitting(one.place, one.hour, other.place, other.hour);
        }

        int hoursBetween(int from, int to) {
            if (from == to) {
                return 0;
            }
            int distance = Math.abs(miles[from] - miles[to]);
            if (distance == 0) {
                return 1;
            }
            return speed <= 0 ? NONE : (distance + speed - 1) / speed;
        }

        int inState(int state) {
            int many = 0;
            for (int i = 0; i < count; i++) {
                if (oaths[i].state == state) {
                    many++;
                }
            }
            return many;
        }

        int lies() {
            int many = 0;
            for (int i = 0; i < count; i++) {
                if (isStandingLie(oaths[i])) {
                    many++;
                }
            }
            return many;
        }

        int refunds() {
            int many = 0;
            for (int i = 0; i < count; i++) {
                if (oaths[i].refunded) {
                    many++;
                }
            }
            return many;
        }

        int paid() {
            int sum = 0;
            for (int i = 0; i < count; i++) {
                sum += oaths[i].price;
            }
            return sum;
        }

        int swornBy(int witness) {
            int many = 0;
            for (int i = 0; i < count; i++) {
                if (oaths[i].witness == witness) {
                    many++;
                }
            }
            return many;
        }

        int spentBy(int witness) {
            int sum = 0;
            for (int i = 0; i < count; i++) {
                if (oaths[i].witness == witness && !oaths[i].refunded) {
                    sum += oaths[i].price;
                }
            }
            return sum;
        }

        int standingBy(int witness, boolean truths) {
            int many = 0;
            for (int i = 0; i < count; i++) {
                Oath oath = oaths[i];
                if (oath.witness == witness && oath.state == STANDS && isTrue(oath) == truths) {
                    many++;
                }
            }
            return many;
        }

        int voidBy(int witness) {
            int many = 0;
            for (int i = 0; i < count; i++) {
                if (oaths[i].witness == witness && oaths[i].state == VOID) {
                    many++;
                }
            }
            return many;
        }

        int voidOfLife(int life) {
            int many = 0;
            for (int i = 0; i < count; i++) {
                if (oaths[i].life == life && oaths[i].state == VOID) {
                    many++;
                }
            }
            return many;
        }

        int liarsAbout(int person) {
            int set = 0;
            for (int i = 0; i < count; i++) {
                if (oaths[i].person == person && isStandingLie(oaths[i])) {
                    set |= 1 << oaths[i].witness;
                }
            }
            return set;
        }

        int sayingSo(int person, int place, int hour) {
            int many = 0;
            for (int i = 0; i < count; i++) {
                if (oaths[i].standsOf(person, hour) && oaths[i].place == place) {
                    many++;
                }
            }
            return many;
        }

        int mostSaid(int person, int hour) {
            int most = 0;
            int first = NONE;
            for (int place = 0; place < places; place++) {
                int many = sayingSo(person, place, hour);
                if (many > most) {
                    most = many;
                    first = place;
                }
            }
            return first;
        }

        int placesSaid(int person, int hour) {
            int set = 0;
            for (int i = 0; i < count; i++) {
                if (oaths[i].standsOf(person, hour)) {
                    set |= 1 << oaths[i].place;
                }
            }
            return set;
        }

        int doubtOf(int person) {
            int many = 0;
            for (int hour = 0; hour < HOURS; hour++) {
                if (Integer.bitCount(placesSaid(person, hour)) >= 2) {
                    many++;
                }
            }
            return many;
        }

        int clashesOf(int person) {
            int many = 0;
            for (int i = 0; i < count; i++) {
                for (int j = i + 1; j < count && oaths[i].standsOf(person); j++) {
                    if (oaths[j].standsOf(person) && !agreeing(oaths[i], oaths[j])) {
                        many++;
                    }
                }
            }
            return many;
        }

        /** The set of OATHS that would be VOID by it; its own number is the next one. */
        int struckBy(int witness, int person, int place, int hour) {
            boolean child = people[witness].child;
            boolean lie = !isTrueOf(person, place, hour);
            int gainsayers = 0;
            int misfits = 0;
            for (int i = 0; i < count; i++) {
                Oath oath = oaths[i];
                if (!oath.standsOf(person)) {
                    continue;
                }
                if (oath.hour == hour) {
                    boolean gainsays = oath.place != place && oath.witness != witness;
                    gainsayers |= child && gainsays ? 1 << i : 0;
                } else if (lie && !isTrue(oath) && !fitting(oath.place, oath.hour, place, hour)) {
                    misfits |= 1 << i;
                }
            }
            int itself = misfits == 0 ? 0 : 1 << count;
            return gainsayers | misfits | itself;
        }

        /** Swears for a price what nothing hinders: the number of the OATH. */
        int enter(int witness, int person, int place, int hour, int price) {
            if (count >= OATHS) {
                return NONE;
            }
            int struck = struckBy(witness, person, place, hour);
            Oath oath = oaths[count];
            oath.witness = witness;
            oath.person = person;
            oath.place = place;
            oath.hour = hour;
            oath.price = price;
            oath.state = STANDS;
            oath.refunded = false;
            oath.life = 0;
            people[witness].purse -= price;
            till += price;
            count++;
            for (int i = 0; i < count; i++) {
                if ((struck >> i & 1) != 0) {
                    oaths[i].state = VOID;
                }
            }
            return count - 1;
        }

        /** FIND: how many OATHS were REFUNDED. */
        int reveal(int person, int place, int hour) {
            boolean news = !isTrueOf(person, place, hour);
            int refunded = 0;
            for (int i = 0; i < count; i++) {
                Oath oath = oaths[i];
                if (!oath.standsOf(person, hour)) {
                    continue;
                }
                if (oath.place != place) {
                    oath.state = VOID;
                } else if (news) {
                    refund(oath);
                    refunded++;
                }
            }
            people[person].truth[hour] = place;
            return refunded;
        }

        private void refund(Oath oath) {
            oath.refunded = true;
            people[oath.witness].purse += oath.price;
            till -= oath.price;
        }

        int latestBy(int witness) {
            for (int i = count - 1; i >= 0; i--) {
                if (oaths[i].witness == witness && oaths[i].state == STANDS) {
                    return i;
                }
            }
            return NONE;
        }
    }

    /** What a WITNESS can swear of a PERSON, by the OATHS that STAND when it is asked. */
    private static final class Stand {
        final Court court;
        int witness = 0;
        int person = 0;
        /** The set of HOURS that the WITNESS has an OATH of. */
        int spoken = 0;
        boolean doubted = false;
        boolean knowsLiar = false;
        /** How many OATHS others have of each HOUR, and of these in each PLACE. */
        final int[] others = new int[HOURS];
        final int[] alike = new int[HOURS * PLACES];
        /** The set of (HOUR, PLACE) that the TWIN says. */
        long echoed = 0;

        Stand(Court source) {
            court = source;
        }

        /** To be called with a WITNESS and a PERSON that there are, ahead of all that follows. */
        void ask(int newWitness, int newPerson) {
            witness = newWitness;
            person = newPerson;
            spoken = 0;
            echoed = 0;
            doubted = false;
            for (int i = 0; i < HOURS; i++) {
                others[i] = 0;
            }
            for (int i = 0; i < HOURS * PLACES; i++) {
                alike[i] = 0;
            }
            long said = 0;
            int liars = 0;
            for (int i = 0; i < court.count; i++) {
                Oath oath = court.oaths[i];
                if (oath.standsOf(person)) {
                    long ofHour = (said >> (oath.hour * PLACES)) & ((1L << PLACES) - 1);
                    doubted |= ofHour != 0 && ofHour != 1L << oath.place;
                    said |= 1L << (oath.hour * PLACES + oath.place);
                    liars |= court.isTrue(oath) ? 0 : 1 << oath.witness;
                    hear(oath);
                }
            }
            knowsLiar = (court.people[witness].friends & liars) != 0;
        }

        private void hear(Oath oath) {
            if (oath.witness == witness) {
                spoken |= 1 << oath.hour;
                return;
            }
            int spot = oath.hour * PLACES + oath.place;
            others[oath.hour]++;
            alike[spot]++;
            if (oath.witness == court.people[witness].twin) {
                echoed |= 1L << spot;
            }
        }

        int against(int place, int hour) {
            return others[hour] - alike[hour * PLACES + place];
        }

        int price(int place, int hour) {
            if (court.people[witness].bishop || court.isTrueOf(person, place, hour)) {
                return 0;
            }
            int whole = court.base + court.more * against(place, hour);
            boolean halved = (echoed >> (hour * PLACES + place) & 1) != 0;
            return halved ? (whole + 1) / 2 : whole;
        }

        /** WHY it can't be sworn, 0 if it can. */
        int hindrance(int place, int hour) {
            if (court.count >= OATHS) {
                return 1;
            }
            if ((spoken >> hour & 1) != 0) {
                return 2;
            }
            if (court.isTrueOf(person, place, hour)) {
                return 0;
            }
            if (court.people[person].truth[hour] != NONE && !doubted) {
                return 3;
            }
            if (knowsLiar) {
                return 4;
            }
            return price(place, hour) > court.people[witness].purse ? 5 : 0;
        }

        int countSayable() {
            int many = 0;
            for (int hour = 0; hour < HOURS; hour++) {
                for (int place = 0; place < court.places; place++) {
                    if (hindrance(place, hour) == 0) {
                        many++;
                    }
                }
            }
            return many;
        }

        int highestPrice() {
            int highest = NONE;
            for (int hour = 0; hour < HOURS; hour++) {
                for (int place = 0; place < court.places; place++) {
                    if (hindrance(place, hour) == 0) {
                        highest = Math.max(highest, price(place, hour));
                    }
                }
            }
            return highest;
        }
    }

    /** Where a PERSON can have been. */
    private static final class Whereabouts {
        final Court court;
        final int[] open = new int[HOURS];
        final int[] many = new int[PLACES];
        final int[] next = new int[PLACES];
        final int[] chains = new int[HOURS * PLACES];

        Whereabouts(Court source) {
            court = source;
        }

        int fitting(int person, int hour) {
            int set = 0;
            for (int place = 0; place < court.places; place++) {
                if (fitsTruth(person, place, hour) && fitsOaths(person, place, hour)) {
                    set |= 1 << place;
                }
            }
            return set;
        }

        private boolean fitsTruth(int person, int place, int hour) {
            for (int h = 0; h < HOURS; h++) {
                int truth = court.people[person].truth[h];
                if (truth != NONE && !court.fitting(place, hour, truth, h)) {
                    return false;
                }
            }
            return true;
        }

        private boolean fitsOaths(int person, int place, int hour) {
            for (int i = 0; i < court.count; i++) {
                Oath oath = court.oaths[i];
                if (oath.standsOf(person) && !court.fitting(place, hour, oath.place, oath.hour)) {
                    return false;
                }
            }
            return true;
        }

        /** Fills open: the PLACES that what is KNOWN, and perhaps the OATHS, leave in each HOUR. */
        private void narrow(int person, boolean oaths) {
            for (int h = 0; h < HOURS; h++) {
                int truth = court.people[person].truth[h];
                open[h] = truth == NONE ? (1 << court.places) - 1 : 1 << truth;
            }
            for (int i = 0; i < court.count && oaths; i++) {
                Oath oath = court.oaths[i];
                if (oath.standsOf(person)) {
                    open[oath.hour] &= 1 << oath.place;
                }
            }
        }

        int countWays(int person, boolean oaths) {
            narrow(person, oaths);
            for (int place = 0; place < PLACES; place++) {
                many[place] = open[0] >> place & 1;
            }
            for (int h = 1; h < HOURS; h++) {
                for (int place = 0; place < court.places; place++) {
                    next[place] = (open[h] >> place & 1) == 0 ? 0 : waysInto(place);
                }
                System.arraycopy(next, 0, many, 0, court.places);
            }
            int sum = 0;
            for (int place = 0; place < court.places; place++) {
                sum += many[place];
            }
            return sum;
        }

        private int waysInto(int place) {
            int sum = 0;
            for (int from = 0; from < court.places; from++) {
                if (court.fitting(from, 0, place, 1)) {
                    sum += many[from];
                }
            }
            return sum;
        }

        private int neighbours(int set) {
            int reached = 0;
            for (int from = 0; from < court.places; from++) {
                for (int to = 0; to < court.places && (set >> from & 1) != 0; to++) {
                    if (court.fitting(from, 0, to, 1)) {
                        reached |= 1 << to;
                    }
                }
            }
            return reached;
        }

        int onSomeWay(int person, int hour, boolean oaths) {
            narrow(person, oaths);
            int fromAhead = open[0];
            for (int h = 1; h <= hour && h < HOURS; h++) {
                fromAhead = neighbours(fromAhead) & open[h];
            }
            int fromBehind = open[HOURS - 1];
            for (int h = HOURS - 2; h >= hour && h >= 0; h--) {
                fromBehind = neighbours(fromBehind) & open[h];
            }
            return fromAhead & fromBehind;
        }

        /**
         * The set of MOST TRUE. OATHS that FIT from HOUR to HOUR all FIT each other, since ways add up,
         * so the best set is a chain of (HOUR, PLACE); chains holds the best one that ends at each.
         */
        int largestFit(int person) {
            int best = 0;
            for (int hour = 0; hour < HOURS; hour++) {
                for (int place = 0; place < court.places; place++) {
                    int own = saying(person, place, hour);
                    int chain = own == 0 ? 0 : own | bestAhead(place, hour);
                    chains[hour * PLACES + place] = chain;
                    best = better(best, chain);
                }
            }
            return best;
        }

        private int saying(int person, int place, int hour) {
            int set = 0;
            for (int i = 0; i < court.count; i++) {
                if (court.oaths[i].standsOf(person, hour) && court.oaths[i].place == place) {
                    set |= 1 << i;
                }
            }
            return set;
        }

        private int bestAhead(int place, int hour) {
            int best = 0;
            for (int h = 0; h < hour; h++) {
                for (int from = 0; from < court.places; from++) {
                    if (court.fitting(from, h, place, hour)) {
                        best = better(best, chains[h * PLACES + from]);
                    }
                }
            }
            return best;
        }

        private static int better(int one, int other) {
            int more = Integer.bitCount(one) - Integer.bitCount(other);
            if (more != 0) {
                return more > 0 ? one : other;
            }
            return Math.min(one, other);
        }
    }

    /** What would be best to swear: ALIBI and CALL, with what was found latest. */
    private static final class Plan {
        final Court court;
        final Court trial;
        final Stand stand;
        final Stand trialStand;
        boolean hasAlibi = false;
        int alibiPlace = NONE;
        int alibiSet = 0;
        boolean hasCall = false;
        int callPlace = NONE;
        int callHour = NONE;
        int callPrice = 0;

        Plan(Court source, Court scratch) {
            court = source;
            trial = scratch;
            stand = new Stand(source);
            trialStand = new Stand(scratch);
        }

        /** The least FEES, NONE if it can't be. */
        int seekAlibi(int person, int place, int hour, int many) {
            int least = NONE;
            trial.copyCase(court);
            for (int other = 0; other < court.places; other++) {
                for (int set = 1; set < 1 << court.persons && other != place; set++) {
                    int fees = Integer.bitCount(set) == many ? tryAlibi(set, person, other, hour) : NONE;
                    if (fees != NONE && (least == NONE || fees < least)) {
                        least = fees;
                        hasAlibi = true;
                        alibiPlace = other;
                        alibiSet = set;
                    }
                }
            }
            return least;
        }

        private int tryAlibi(int set, int person, int place, int hour) {
            trial.unswear(court);
            int before = trial.till;
            for (int witness = 0; witness < trial.persons; witness++) {
                if ((set >> witness & 1) == 0) {
                    continue;
                }
                trialStand.ask(witness, person);
                if (trialStand.hindrance(place, hour) != 0) {
                    return NONE;
                }
                trial.enter(witness, person, place, hour, trialStand.price(place, hour));
            }
            return allStand(set) ? trial.till - before : NONE;
        }

        private boolean allStand(int set) {
            for (int i = 0; i < trial.count; i++) {
                Oath oath = trial.oaths[i];
                boolean stood = i >= court.count || court.oaths[i].state == STANDS;
                if ((set >> oath.witness & 1) != 0 && stood && oath.state != STANDS) {
                    return false;
                }
            }
            return true;
        }

        /** The most OATHS of others that become VOID, NONE if nothing can be sworn. */
        int seekCall(int witness, int person) {
            int most = NONE;
            stand.ask(witness, person);
            for (int hour = 0; hour < HOURS; hour++) {
                for (int place = 0; place < court.places; place++) {
                    if (stand.hindrance(place, hour) != 0) {
                        continue;
                    }
                    int struck = othersStruck(witness, person, place, hour);
                    int price = stand.price(place, hour);
                    if (struck > most || (struck == most && price < callPrice)) {
                        most = struck;
                        hasCall = true;
                        callPlace = place;
                        callHour = hour;
                        callPrice = price;
                    }
                }
            }
            return most;
        }

        private int othersStruck(int witness, int person, int place, int hour) {
            int struck = court.struckBy(witness, person, place, hour);
            int many = 0;
            for (int i = 0; i < court.count; i++) {
                if ((struck >> i & 1) != 0 && court.oaths[i].witness != witness) {
                    many++;
                }
            }
            return many;
        }
    }

    /** A text on the tape, TOKEN by TOKEN, with the first FAULT in it. */
    private static final class Text {
        static final int END = 0;
        static final int KEY = 1;
        static final int NAME = 2;
        static final int LONG_WORD = 3;
        static final int NUMBER = 4;
        static final int SIGN = 5;
        static final int BAD = 6;

        static final String KEYS =
            "place at person purse child bishop twins knows was in hour base more speed swear says find recant any when till stands loop end stop ";
        static final int KEY_COUNT = 25;
        static final int KEY_PLACE = 0;
        static final int KEY_AT = 1;
        static final int KEY_PERSON = 2;
        static final int KEY_PURSE = 3;
        static final int KEY_CHILD = 4;
        static final int KEY_BISHOP = 5;
        static final int KEY_TWINS = 6;
        static final int KEY_KNOWS = 7;
        static final int KEY_WAS = 8;
        static final int KEY_IN = 9;
        static final int KEY_HOUR = 10;
        static final int KEY_BASE = 11;
        static final int KEY_MORE = 12;
        static final int KEY_SPEED = 13;
        static final int KEY_SWEAR = 14;
        static final int KEY_SAYS = 15;
        static final int KEY_FIND = 16;
        static final int KEY_RECANT = 17;
        static final int KEY_ANY = 18;
        static final int KEY_WHEN = 19;
        static final int KEY_TILL = 20;
        static final int KEY_STANDS = 21;
        static final int KEY_LOOP = 22;
        static final int KEY_END = 23;
        static final int KEY_STOP = 24;

        /** Eight letters of five bits each: two words are the same if their numbers are. */
        static final int LETTERS = 32;
        static final int NAME_LETTERS = 8;
        static final int NUMBER_DIGITS = 4;

        static final int CANT_BEGIN = 1;
        static final int CANT_STAND = 2;
        static final int BAD_NAME = 3;
        static final int CANT_COUNT = 4;
        static final int ITSELF_OR_AGAIN = 5;
        static final int TOO_MANY = 6;
        static final int TOO_DEEP = 7;

        final byte[] bytes;
        final long[] keys = new long[KEY_COUNT];
        int length = 0;
        int at = 0;
        int kind = END;
        int start = 0;
        long word = 0;
        int key = NONE;
        int number = 0;
        int sign = 0;
        int fault = NONE;
        int faultPlace = NONE;

        Text(byte[] tape) {
            bytes = tape;
            long packed = 0;
            int filled = 0;
            for (int i = 0; i < KEYS.length(); i++) {
                char c = KEYS.charAt(i);
                if (c != ' ') {
                    packed = packed * LETTERS + (c - 'a' + 1);
                } else if (filled < KEY_COUNT) {
                    keys[filled] = packed;
                    filled++;
                    packed = 0;
                }
            }
        }

        void begin(int newLength) {
            length = Math.min(newLength, bytes.length);
            at = 0;
            fault = 0;
            faultPlace = NONE;
            advance();
        }

        /** Goes on to the next TOKEN. */
        void advance() {
            while (at < length && (bytes[at] == ' ' || bytes[at] == '\n')) {
                at++;
            }
            start = at;
            key = NONE;
            word = 0;
            number = 0;
            sign = at < length ? bytes[at] : 0;
            if (at >= length) {
                kind = END;
            } else if (sign >= 'a' && sign <= 'z') {
                // what is longer than a NAME is no key either, so the rest of it may be left out
                while (at < length && bytes[at] >= 'a' && bytes[at] <= 'z') {
                    word = at - start < NAME_LETTERS ? word * LETTERS + (bytes[at] - 'a' + 1) : word;
                    at++;
                }
                kind = at - start > NAME_LETTERS ? LONG_WORD : NAME;
                for (int i = 0; i < KEY_COUNT && kind == NAME; i++) {
                    if (keys[i] == word) {
                        kind = KEY;
                        key = i;
                    }
                }
            } else if (sign >= '0' && sign <= '9') {
                while (at < length && bytes[at] >= '0' && bytes[at] <= '9') {
                    number = at - start < NUMBER_DIGITS ? number * 10 + (bytes[at] - '0') : number;
                    at++;
                }
                kind = at - start > NUMBER_DIGITS ? BAD : NUMBER;
            } else if (sign == ';' || sign == '<' || sign == '>' || sign == '=') {
                kind = SIGN;
                at++;
            } else {
                kind = BAD;
            }
        }

        /** A FAULT at the TOKEN here; always false, so that a reader can end with it. */
        boolean fail(int faultKind) {
            fault = kind == BAD ? CANT_BEGIN : faultKind;
            faultPlace = start;
            return false;
        }

        /** A FAULT at a TOKEN that was passed. */
        boolean failAt(int place, int faultKind) {
            fault = faultKind;
            faultPlace = place;
            return false;
        }

        boolean pass(int wantedKey) {
            if (key != wantedKey) {
                return fail(CANT_STAND);
            }
            advance();
            return true;
        }

        boolean passIfThere(int wantedKey) {
            if (key != wantedKey) {
                return false;
            }
            advance();
            return true;
        }

        boolean passStop() {
            if (kind != SIGN || sign != ';') {
                return fail(CANT_STAND);
            }
            advance();
            return true;
        }

        /** The sign here, and on; NONE with a FAULT. */
        int passComparison() {
            if (kind != SIGN || sign == ';') {
                fail(CANT_STAND);
                return NONE;
            }
            int value = sign;
            advance();
            return value;
        }

        /** The NUMBER here, and on; NONE with a FAULT. */
        int passNumber(int low, int high) {
            if (kind != NUMBER || number < low || number > high) {
                fail(kind == NUMBER ? CANT_COUNT : CANT_STAND);
                return NONE;
            }
            int value = number;
            advance();
            return value;
        }

        /** The PERSON whose NAME is here, and on; NONE with a FAULT. */
        int passPerson(Court court) {
            int person = kind == NAME ? court.personNamed(word) : NONE;
            if (person == NONE) {
                fail(kind == NAME ? BAD_NAME : CANT_STAND);
            } else {
                advance();
            }
            return person;
        }

        /** The PLACE whose NAME is here, and on; NONE with a FAULT. */
        int passPlace(Court court) {
            int place = kind == NAME ? court.placeNamed(word) : NONE;
            if (place == NONE) {
                fail(kind == NAME ? BAD_NAME : CANT_STAND);
            } else {
                advance();
            }
            return place;
        }
    }

    /** Reads a COURT, or TRIALS, into the draft. */
    private static final class Reader {
        final Text text;
        final Court now;
        final Court draft;
        final Trials steps;
        int toldRates = 0;
        final int[] open = new int[Trials.DEPTH];
        int opened = 0;

        Reader(Text source, Court current, Court target) {
            text = source;
            now = current;
            draft = target;
            steps = target.trials;
        }

        boolean takeCourt(int length) {
            draft.clear();
            toldRates = 0;
            text.begin(length);
            for (int part = 0; part < TAPE_ROOM && text.kind != Text.END; part++) {
                if (!takePart()) {
                    return false;
                }
            }
            return true;
        }

        private boolean takePart() {
            switch (text.key) {
                case Text.KEY_PLACE: return takePlace();
                case Text.KEY_PERSON: return takePerson();
                case Text.KEY_TWINS: return takeTwins();
                case Text.KEY_KNOWS: return takeKnows();
                case Text.KEY_WAS: return takeWas();
                case Text.KEY_BASE: return takeRate(Text.KEY_BASE, TOP_RATE);
                case Text.KEY_MORE: return takeRate(Text.KEY_MORE, TOP_RATE);
                case Text.KEY_SPEED: return takeRate(Text.KEY_SPEED, TOP_SPEED);
                default: return text.fail(Text.CANT_STAND);
            }
        }

        private boolean isNewName() {
            if (text.kind != Text.NAME) {
                return text.fail(Text.CANT_STAND);
            }
            if (draft.placeNamed(text.word) != NONE || draft.personNamed(text.word) != NONE) {
                return text.fail(Text.BAD_NAME);
            }
            return true;
        }

        private boolean takePlace() {
            if (draft.places >= PLACES) {
                return text.fail(Text.TOO_MANY);
            }
            text.advance();
            if (!isNewName()) {
                return false;
            }
            draft.placeNames[draft.places] = text.word;
            text.advance();
            if (!text.pass(Text.KEY_AT)) {
                return false;
            }
            int mile = text.passNumber(0, TOP_MILE);
            if (mile == NONE || !text.passStop()) {
                return false;
            }
            draft.miles[draft.places] = mile;
            draft.places++;
            return true;
        }

        private boolean takePerson() {
            if (draft.persons >= PERSONS) {
                return text.fail(Text.TOO_MANY);
            }
            text.advance();
            if (!isNewName()) {
                return false;
            }
            Person person = draft.people[draft.persons];
            person.begin(text.word);
            text.advance();
            if (!text.pass(Text.KEY_PURSE)) {
                return false;
            }
            person.purse = text.passNumber(0, TOP_PURSE);
            if (person.purse == NONE) {
                return false;
            }
            person.child = text.passIfThere(Text.KEY_CHILD);
            person.bishop = text.passIfThere(Text.KEY_BISHOP);
            if (!text.passStop()) {
                return false;
            }
            draft.persons++;
            return true;
        }

        private int passUntwinned() {
            int place = text.start;
            int person = text.passPerson(draft);
            if (person != NONE && draft.people[person].twin != NONE) {
                text.failAt(place, Text.ITSELF_OR_AGAIN);
                return NONE;
            }
            return person;
        }

        private boolean takeTwins() {
            text.advance();
            int first = passUntwinned();
            if (first == NONE) {
                return false;
            }
            int secondPlace = text.start;
            int second = passUntwinned();
            if (second == NONE) {
                return false;
            }
            if (first == second) {
                return text.failAt(secondPlace, Text.ITSELF_OR_AGAIN);
            }
            draft.people[first].twin = second;
            draft.people[second].twin = first;
            return text.passStop();
        }

        private boolean takeKnows() {
            text.advance();
            int first = text.passPerson(draft);
            if (first == NONE) {
                return false;
            }
            int secondPlace = text.start;
            int second = text.passPerson(draft);
            if (second == NONE) {
                return false;
            }
            if (first == second) {
                return text.failAt(secondPlace, Text.ITSELF_OR_AGAIN);
            }
            draft.befriend(first, second);
            return text.passStop();
        }

        private boolean takeWas() {
            text.advance();
            int person = text.passPerson(draft);
            if (person == NONE || !text.pass(Text.KEY_IN)) {
                return false;
            }
            int place = text.passPlace(draft);
            if (place == NONE || !text.pass(Text.KEY_HOUR)) {
                return false;
            }
            int hour = text.passNumber(0, HOURS - 1);
            if (hour == NONE) {
                return false;
            }
            draft.people[person].truth[hour] = place;
            return text.passStop();
        }

        private boolean takeRate(int key, int high) {
            if ((toldRates >> key & 1) != 0) {
                return text.fail(Text.ITSELF_OR_AGAIN);
            }
            toldRates |= 1 << key;
            text.advance();
            int rate = text.passNumber(0, high);
            if (rate == NONE) {
                return false;
            }
            if (key == Text.KEY_BASE) {
                draft.base = rate;
            } else if (key == Text.KEY_MORE) {
                draft.more = rate;
            } else {
                draft.speed = rate;
            }
            return text.passStop();
        }

        boolean takeTrials(int length) {
            steps.clear();
            opened = 0;
            text.begin(length);
            for (int step = 0; step < TAPE_ROOM && text.kind != Text.END; step++) {
                boolean taken = text.key == Text.KEY_END ? takeEnd() : takeStep();
                if (!taken) {
                    return false;
                }
            }
            if (opened > 0) {
                return text.fail(Text.CANT_STAND);
            }
            steps.taken = true;
            return true;
        }

        private boolean takeEnd() {
            if (opened <= 0 || steps.rows >= Trials.ROWS) {
                return text.fail(Text.CANT_STAND);
            }
            text.advance();
            opened--;
            int row = steps.rows;
            int beginning = open[opened];
            steps.kind[row] = steps.kind[beginning] == Trials.LOOP ? Trials.END_LOOP : Trials.END_WHEN;
            steps.partner[row] = beginning;
            steps.partner[beginning] = row;
            steps.depth[row] = opened;
            steps.rows++;
            return text.passStop();
        }

        private static boolean isStepKey(int key) {
            return key == Text.KEY_SWEAR || key == Text.KEY_ANY || key == Text.KEY_FIND || key == Text.KEY_RECANT
                || key == Text.KEY_WHEN || key == Text.KEY_LOOP || key == Text.KEY_STOP;
        }

        private boolean mayBegin(int key) {
            if (!isStepKey(key)) {
                return text.fail(Text.CANT_STAND);
            }
            if (steps.steps >= Trials.STEPS || steps.rows >= Trials.ROWS) {
                return text.fail(Text.TOO_MANY);
            }
            boolean opens = key == Text.KEY_WHEN || key == Text.KEY_LOOP;
            return !opens || opened < Trials.DEPTH || text.fail(Text.TOO_DEEP);
        }

        private int newRow(int key) {
            int row = steps.rows;
            if (key == Text.KEY_WHEN || key == Text.KEY_LOOP) {
                steps.depth[row] = opened;
                open[opened] = row;
                opened++;
            }
            steps.rows++;
            steps.steps++;
            return row;
        }

        private boolean takeStep() {
            int key = text.key;
            if (!mayBegin(key)) {
                return false;
            }
            int row = newRow(key);
            text.advance();
            switch (key) {
                case Text.KEY_SWEAR:
                    steps.kind[row] = Trials.SWEAR;
                    return takeWitness(row) && text.pass(Text.KEY_SAYS) && takeWhere(row) && text.passStop();
                case Text.KEY_ANY:
                    steps.kind[row] = Trials.ANY;
                    return takeWitness(row) && text.pass(Text.KEY_SAYS) && takeSubject(row) && text.passStop();
                case Text.KEY_FIND:
                    steps.kind[row] = Trials.FIND;
                    return takeWhere(row) && text.passStop();
                case Text.KEY_RECANT:
                    steps.kind[row] = Trials.RECANT;
                    return takeWitness(row) && text.passStop();
                case Text.KEY_WHEN:
                    return takeTest(row) && text.passStop();
                case Text.KEY_LOOP:
                    steps.kind[row] = Trials.LOOP;
                    steps.number[row] = text.passNumber(1, TOP_ROUNDS);
                    return steps.number[row] != NONE && text.passStop();
                default:
                    steps.kind[row] = Trials.STOP;
                    return text.passStop();
            }
        }

        private boolean takeTest(int row) {
            if (text.key == Text.KEY_STANDS) {
                steps.kind[row] = Trials.WHEN_STANDS;
                text.advance();
                return takeWhere(row);
            }
            steps.kind[row] = text.key == Text.KEY_PURSE ? Trials.WHEN_PURSE : Trials.WHEN_TILL;
            if (text.key != Text.KEY_PURSE && text.key != Text.KEY_TILL) {
                return text.fail(Text.CANT_STAND);
            }
            text.advance();
            if (steps.kind[row] == Trials.WHEN_PURSE && !takeSubject(row)) {
                return false;
            }
            steps.sign[row] = text.passComparison();
            if (steps.sign[row] == NONE) {
                return false;
            }
            steps.number[row] = text.passNumber(0, TOP_SAVED);
            return steps.number[row] != NONE;
        }

        private boolean takeWitness(int row) {
            steps.witness[row] = text.passPerson(now);
            return steps.witness[row] != NONE;
        }

        private boolean takeSubject(int row) {
            steps.person[row] = text.passPerson(now);
            return steps.person[row] != NONE;
        }

        /** NAME in NAME hour NUMBER. */
        private boolean takeWhere(int row) {
            steps.person[row] = text.passPerson(now);
            if (steps.person[row] == NONE || !text.pass(Text.KEY_IN)) {
                return false;
            }
            steps.place[row] = text.passPlace(now);
            if (steps.place[row] == NONE || !text.pass(Text.KEY_HOUR)) {
                return false;
            }
            steps.number[row] = text.passNumber(0, HOURS - 1);
            return steps.number[row] != NONE;
        }
    }

    /** TRIALS, a row for each STEP and for each end. */
    private static final class Trials {
        static final int STEPS = 30;
        static final int ROWS = 60;
        static final int DEPTH = 3;

        static final int SWEAR = 0;
        static final int ANY = 1;
        static final int FIND = 2;
        static final int RECANT = 3;
        static final int WHEN_TILL = 4;
        static final int WHEN_PURSE = 5;
        static final int WHEN_STANDS = 6;
        static final int LOOP = 7;
        static final int STOP = 8;
        static final int END_WHEN = 9;
        static final int END_LOOP = 10;

        boolean taken = false;
        int steps = 0;
        int rows = 0;
        final int[] kind = new int[ROWS];
        final int[] witness = new int[ROWS];
        final int[] person = new int[ROWS];
        final int[] place = new int[ROWS];
        /** An HOUR, how often to loop, or what to compare with. */
        final int[] number = new int[ROWS];
        final int[] sign = new int[ROWS];
        /** The row of the other end of a when or loop. */
        final int[] partner = new int[ROWS];
        /** Within how many others a when or loop is. */
        final int[] depth = new int[ROWS];

        void clear() {
            taken = false;
            steps = 0;
            rows = 0;
        }

        void copyAll(Trials other) {
            taken = other.taken;
            steps = other.steps;
            rows = other.rows;
            System.arraycopy(other.kind, 0, kind, 0, rows);
            System.arraycopy(other.witness, 0, witness, 0, rows);
            System.arraycopy(other.person, 0, person, 0, rows);
            System.arraycopy(other.place, 0, place, 0, rows);
            System.arraycopy(other.number, 0, number, 0, rows);
            System.arraycopy(other.sign, 0, sign, 0, rows);
            System.arraycopy(other.partner, 0, partner, 0, rows);
            System.arraycopy(other.depth, 0, depth, 0, rows);
        }
    }

    /** Lives TRIALS in a COURT. */
    private static final class Runner {
        static final int MOST_STEPS = 300;
        static final int MOST_TURNS = 1000000;

        final Court court;
        final Trials trials;
        final Stand stand;
        final int[] rounds = new int[Trials.DEPTH];
        final int[] choices = new int[HOURS * PLACES];
        int drawn = 0;
        int number = 0;
        int steps = 0;
        int missed = 0;
        int sworn = 0;
        int fees = 0;
        boolean left = false;

        Runner(Court scene, Trials script) {
            court = scene;
            trials = script;
            stand = new Stand(scene);
        }

        void go(int seed, int life) {
            drawn = seed;
            number = life;
            steps = 0;
            missed = 0;
            sworn = 0;
            fees = 0;
            left = false;
            int row = 0;
            for (int turn = 0; turn < MOST_TURNS && row < trials.rows && !left; turn++) {
                if (trials.kind[row] == Trials.END_WHEN) {
                    row++;
                } else if (trials.kind[row] == Trials.END_LOOP) {
                    row = behindLoopEnd(row);
                } else if (steps >= MOST_STEPS) {
                    left = true;
                } else {
                    steps++;
                    row = behindStep(row);
                }
            }
        }

        private int behindLoopEnd(int row) {
            int slot = trials.depth[row];
            rounds[slot]--;
            return rounds[slot] > 0 ? trials.partner[row] + 1 : row + 1;
        }

        private int behindStep(int row) {
            switch (trials.kind[row]) {
                case Trials.SWEAR:
                    swearTold(row);
                    return row + 1;
                case Trials.ANY:
                    swearAny(row);
                    return row + 1;
                case Trials.FIND:
                    court.reveal(trials.person[row], trials.place[row], trials.number[row]);
                    return row + 1;
                case Trials.RECANT:
                    recantLatest(trials.witness[row]);
                    return row + 1;
                case Trials.LOOP:
                    return intoLoop(row);
                case Trials.STOP:
                    return trials.rows;
                default:
                    return holds(row) ? row + 1 : trials.partner[row] + 1;
            }
        }

        private int intoLoop(int row) {
            rounds[trials.depth[row]] = trials.number[row];
            // a loop around nothing is over at once
            return trials.partner[row] == row + 1 ? row + 2 : row + 1;
        }

        private boolean holds(int row) {
            switch (trials.kind[row]) {
                case Trials.WHEN_TILL:
                    return compares(court.till, row);
                case Trials.WHEN_PURSE:
                    return compares(court.people[trials.person[row]].purse, row);
                default:
                    return court.sayingSo(trials.person[row], trials.place[row], trials.number[row]) > 0;
            }
        }

        private boolean compares(int value, int row) {
            if (trials.sign[row] == '<') {
                return value < trials.number[row];
            }
            if (trials.sign[row] == '>') {
                return value > trials.number[row];
            }
            return value == trials.number[row];
        }

        private void swearTold(int row) {
            int place = trials.place[row];
            int hour = trials.number[row];
            stand.ask(trials.witness[row], trials.person[row]);
            if (stand.hindrance(place, hour) != 0) {
                missed++;
                return;
            }
            int price = stand.price(place, hour);
            note(court.enter(stand.witness, stand.person, place, hour, price));
        }

        private void note(int oath) {
            if (court.isOath(oath)) {
                court.oaths[oath].life = number;
                fees += court.oaths[oath].price;
                sworn++;
            }
        }

        private int draw(int n) {
            drawn = (drawn * 2953 + 11149) % 65536;
            return n <= 0 ? 0 : drawn / 8 % n;
        }

        private void swearAny(int row) {
            stand.ask(trials.witness[row], trials.person[row]);
            int many = 0;
            for (int hour = 0; hour < HOURS; hour++) {
                for (int place = 0; place < court.places; place++) {
                    if (stand.hindrance(place, hour) == 0) {
                        choices[many] = hour * PLACES + place;
                        many++;
                    }
                }
            }
            if (many == 0) {
                missed++;
                return;
            }
            int choice = choices[draw(many)];
            int place = choice % PLACES;
            int hour = choice / PLACES;
            note(court.enter(stand.witness, stand.person, place, hour, stand.price(place, hour)));
        }

        private void recantLatest(int witness) {
            int oath = court.latestBy(witness);
            if (court.isOath(oath)) {
                court.oaths[oath].state = RECANTED;
            } else {
                missed++;
            }
        }
    }
}
