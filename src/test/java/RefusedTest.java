import java.util.HashMap;
import java.util.Map;
import java.util.function.Supplier;

/**
 * "With another STATUS than 0 a call gives NONE, or false, and changes nothing else": each call with each STATUS
 * that it names, its answer, and that all else that can be asked is as it was. Then that asking changes nothing.
 */
public final class RefusedTest {
    private static final Check CHECK = new Check();
    private static final int LOW = Integer.MIN_VALUE;
    private static final int HIGH = Integer.MAX_VALUE;

    private static final String TOWN =
        "place inn at 0;place mill at 12;place port at 30;"
        + "person ann purse 50;person ben purse 20;person kid purse 9 child;person pope purse 0 bishop;"
        + "person eve purse 30;twins ann ben;knows ann eve;"
        + "was ann in inn hour 0;was ben in mill hour 3;base 6;more 3;";
    private static final int INN = 0;
    private static final int MILL = 1;
    private static final int PORT = 2;
    private static final int ANN = 0;
    private static final int BEN = 1;
    private static final int KID = 2;
    private static final int POPE = 3;
    private static final int EVE = 4;

    private interface Ask {
        long on(OathTill x);
    }

    private interface Deed {
        boolean on(OathTill x);
    }

    private final String scene;
    private final Supplier<OathTill> maker;
    private final Map<String, String> due;

    private RefusedTest(String scene, Supplier<OathTill> maker) {
        this.scene = scene;
        this.maker = maker;
        due = Portrait.of(maker.get());
    }

    public static void main(String[] args) {
        RefusedTest fresh = new RefusedTest("a new object", OathTill::new);
        RefusedTest busy = new RefusedTest("a busy one", RefusedTest::busy);
        RefusedTest full = new RefusedTest("a full one", RefusedTest::full);
        refusedTrays(fresh, busy);
        refusedBids(fresh, busy);
        refusedTexts(fresh, busy, full);
        refusedAsking(fresh, busy);
        refusedSwearing(fresh, busy, full);
        refusedPlans(fresh, busy, full);
        refusedTrials(fresh, busy);
        refusedMarks(fresh, full);
        askingChangesNothing(busy);
        CHECK.end();
    }

    // ---- scenes

    /** TRAYS of three sorts and one MISSING, two MARKS, OATHS of each kind, TRIALS, all told of, 20 bytes on the tape. */
    private static OathTill busy() {
        OathTill x = new OathTill();
        x.tray(0, 0, 3);
        x.write(0, 0, 5);
        x.write(0, 1, -1);
        x.write(0, 2, 9);
        x.tray(1, 1, 2);
        x.write(1, 0, 300);
        x.write(1, 1, 300);
        x.tray(2, 0, 0);
        Check.court(x, TOWN);
        x.mark();
        x.swear(ANN, KID, INN, 1);
        x.swear(POPE, KID, INN, 1);
        x.swear(EVE, BEN, INN, 1);
        x.swear(POPE, BEN, PORT, 2);
        x.swear(EVE, POPE, MILL, 6);
        Check.trials(x, "any ben says eve;recant eve;loop 2;any eve says ann;end;");
        x.mark();
        x.find(KID, INN, 1);
        x.recant(4);
        x.live(8);
        x.alibi(EVE, INN, 3, 2);
        x.call(KID, EVE);
        x.kept();
        Check.feed(x, "base 42;");
        return x;
    }

    /** 16 OATHS, 3 MARKS, a PURSE of 9,999, 900 bytes on the tape; nobody can swear, nobody lies. */
    private static OathTill full() {
        OathTill x = new OathTill();
        Check.court(x, "place inn at 0;place mill at 1;person ann purse 999;person ben purse 0;");
        for (int i = 0; i < 9; i++) {
            x.earn(0, 999);
        }
        x.earn(0, 9);
        for (int hour = 0; hour < 8; hour++) {
            x.find(0, 0, hour);
            x.swear(0, 0, 0, hour);
            x.swear(1, 0, 0, hour);
        }
        x.mark();
        x.mark();
        x.mark();
        for (int i = 0; i < 45; i++) {
            x.feed(0x20202020, 0x20202020, 0x20202020, 0x20202020, 0x2020200A);
        }
        return x;
    }

    // ---- what is looked at

    private void refused(String name, int status, Ask call) {
        OathTill x = maker.get();
        CHECK.refused(x, name + " on " + scene, call.on(x), status);
        unchanged(x, name, "");
    }

    private void denied(String name, int status, Deed call) {
        OathTill x = maker.get();
        CHECK.refused(x, name + " on " + scene, call.on(x), status);
        unchanged(x, name, "");
    }

    /** A call with STATUS 0, by which only one section may become another. */
    private void asked(String name, String changed, Ask call) {
        OathTill x = maker.get();
        call.on(x);
        CHECK.is(name + " status on " + scene, x.status(), 0);
        unchanged(x, name, changed);
    }

    private void unchanged(OathTill x, String name, String but) {
        Map<String, String> got = new HashMap<>(Portrait.of(x));
        for (Map.Entry<String, String> section : due.entrySet()) {
            boolean free = but.contains(section.getKey());
            boolean same = section.getValue().equals(got.get(section.getKey()));
            CHECK.is(name + " on " + scene + " leaves the " + section.getKey(), free || same, true);
        }
    }

    // ---- STATUS by STATUS

    private static void refusedTrays(RefusedTest fresh, RefusedTest busy) {
        CHECK.promise(5);
        for (int no : new int[] {-1, 4, LOW, HIGH}) {
            busy.denied("tray no " + no, 1, x -> x.tray(no, 0, 1));
            busy.denied("tray of sort " + no, 1, x -> x.tray(0, no, 1));
        }
        for (int no : new int[] {-1, 61, LOW, HIGH}) {
            busy.denied("tray of " + no, 1, x -> x.tray(0, 0, no));
        }
        CHECK.promise(6);
        for (int no : new int[] {-1, 4, LOW, HIGH}) {
            busy.denied("write tray " + no, 1, x -> x.write(no, 0, 1));
        }
        busy.denied("write missing", 2, x -> x.write(3, 0, 1));
        busy.denied("write missing at -1", 2, x -> x.write(3, -1, 1));
        fresh.denied("write missing", 2, x -> x.write(0, 0, 1));
        for (int no : new int[] {-1, 3, LOW, HIGH}) {
            busy.denied("write at " + no, 3, x -> x.write(0, no, 1));
        }
        busy.denied("write into none", 3, x -> x.write(2, 0, 1));
        CHECK.promise(7);
        for (int no : new int[] {-1, 4, LOW, HIGH}) {
            busy.refused("read tray " + no, 1, x -> x.read(no, 0));
        }
        busy.refused("read missing", 2, x -> x.read(3, 0));
        busy.refused("read missing at -1", 2, x -> x.read(3, -1));
        for (int no : new int[] {-1, 3, LOW, HIGH}) {
            busy.refused("read at " + no, 3, x -> x.read(0, no));
        }
        busy.refused("read of none", 3, x -> x.read(2, 0));
        refusedPours(busy);
    }

    private static void refusedPours(RefusedTest busy) {
        CHECK.promise(8);
        for (int no : new int[] {-1, 4, LOW, HIGH}) {
            busy.denied("pour from " + no, 1, x -> x.pour(no, 0, 0, 0, 1));
            busy.denied("pour to " + no, 1, x -> x.pour(0, 0, no, 0, 1));
        }
        for (int no : new int[] {-1, LOW}) {
            busy.denied("pour place " + no, 1, x -> x.pour(0, no, 0, 0, 1));
            busy.denied("pour at " + no, 1, x -> x.pour(0, 0, 0, no, 1));
            busy.denied("pour many " + no, 1, x -> x.pour(0, 0, 0, 0, no));
            busy.denied("pour of a missing one " + no, 1, x -> x.pour(3, 0, 0, 0, no));
        }
        busy.denied("pour from missing", 2, x -> x.pour(3, 0, 0, 0, 1));
        busy.denied("pour to missing", 2, x -> x.pour(0, 0, 3, 0, 1));
        busy.denied("pour missing into itself, none", 2, x -> x.pour(3, 0, 3, 0, 0));
        busy.denied("pour unlike", 8, x -> x.pour(0, 0, 1, 0, 1));
        busy.denied("pour unlike, none", 8, x -> x.pour(1, 0, 0, 0, 0));
        busy.denied("pour unlike ahead of too few", 8, x -> x.pour(0, 0, 1, 0, 9));
        busy.denied("pour too few", 3, x -> x.pour(0, 0, 0, 0, 4));
        busy.denied("pour too few behind a place", 3, x -> x.pour(0, 2, 0, 0, 2));
        busy.denied("pour too few there", 3, x -> x.pour(0, 0, 0, 2, 2));
        busy.denied("pour into none", 3, x -> x.pour(0, 0, 2, 0, 1));
        busy.denied("pour from none", 3, x -> x.pour(2, 0, 0, 0, 1));
        busy.denied("pour from beyond", 3, x -> x.pour(0, 4, 0, 0, 0));
        busy.denied("pour to beyond", 3, x -> x.pour(0, 0, 0, 4, 0));
        busy.denied("pour from far beyond", 3, x -> x.pour(0, HIGH, 0, 0, HIGH));
        busy.denied("pour to far beyond", 3, x -> x.pour(0, 0, 0, HIGH, 1));
        busy.denied("pour far too many", 3, x -> x.pour(0, 1, 0, 1, HIGH));
    }

    private static void refusedBids(RefusedTest fresh, RefusedTest busy) {
        for (int no : new int[] {-1, 4, LOW, HIGH}) {
            CHECK.promise(52);
            busy.refused("auction tray " + no, 1, x -> x.auction(no, 1));
            CHECK.promise(53);
            busy.refused("hammer tray " + no, 1, x -> x.hammer(no, 1));
        }
        for (int no : new int[] {0, -1, 61, LOW, HIGH}) {
            CHECK.promise(52);
            busy.refused("auction by " + no, 1, x -> x.auction(0, no));
            fresh.refused("auction missing by " + no, 1, x -> x.auction(0, no));
            CHECK.promise(53);
            busy.refused("hammer by " + no, 1, x -> x.hammer(0, no));
            fresh.refused("hammer missing by " + no, 1, x -> x.hammer(0, no));
        }
        CHECK.promise(52);
        busy.refused("auction missing", 2, x -> x.auction(3, 1));
        fresh.refused("auction missing by 60", 2, x -> x.auction(0, 60));
        busy.refused("auction too few ahead of a bid below 0", 3, x -> x.auction(0, 4));
        busy.refused("auction of none", 3, x -> x.auction(2, 1));
        busy.refused("auction by 60 of 2", 3, x -> x.auction(1, 60));
        busy.refused("auction below 0", 5, x -> x.auction(0, 2));
        busy.refused("auction below 0 between", 5, x -> x.auction(0, 3));
        busy.refused("auction dead heat", 6, x -> x.auction(1, 2));
        CHECK.promise(53);
        busy.refused("hammer missing", 2, x -> x.hammer(3, 1));
        fresh.refused("hammer missing by 60", 2, x -> x.hammer(0, 60));
        busy.refused("hammer too few ahead of a bid below 0", 3, x -> x.hammer(0, 4));
        busy.refused("hammer of none", 3, x -> x.hammer(2, 1));
        busy.refused("hammer by 60 of 2", 3, x -> x.hammer(1, 60));
        busy.refused("hammer below 0", 5, x -> x.hammer(0, 2));
    }

    private static void refusedTexts(RefusedTest fresh, RefusedTest busy, RefusedTest full) {
        CHECK.promise(10);
        fresh.refused("court of an empty tape", 1, x -> x.court(1));
        for (int no : new int[] {-1, 21, LOW, HIGH}) {
            busy.refused("court " + no, 1, x -> x.court(no));
        }
        for (int no : new int[] {-1, 901, LOW, HIGH}) {
            full.refused("court " + no, 1, x -> x.court(no));
        }
        CHECK.promise(11);
        fresh.refused("trials of an empty tape", 1, x -> x.trials(1));
        for (int no : new int[] {-1, 21, LOW, HIGH}) {
            busy.refused("trials " + no, 1, x -> x.trials(no));
        }
        for (int no : new int[] {-1, 301, 900, 901, LOW, HIGH}) {
            full.refused("trials " + no, 1, x -> x.trials(no));
        }
        CHECK.promise(9);
        OathTill fed = full();
        fed.mile(9);
        CHECK.is("feed beyond 900", fed.feed(0x62617365, 0x20373B20, 0, 0, 0), -1);
        CHECK.is("feed has no status", fed.status(), 1);
        full.unchanged(fed, "feed beyond 900", "");
        faulty(busy);
    }

    /** With 9 the tape is empty and fault() tells; nothing else is another. */
    private static void faulty(RefusedTest busy) {
        CHECK.promise(10);
        OathTill x = busy();
        CHECK.refused(x, "court with a fault", x.court(20), 9);
        CHECK.is("fault of the court", x.fault(0), 1);
        CHECK.is("place of the fault of the court", x.fault(1), 8);
        busy.unchanged(x, "court with a fault", "fault tape");
        x = busy();
        x.court(20);
        CHECK.is("the tape is empty behind a fault", x.feed(0, 0, 0, 0, 0), 20);
        CHECK.promise(11);
        x = busy();
        CHECK.refused(x, "trials with a fault", x.trials(8), 9);
        CHECK.is("fault of the trials", x.fault(0), 2);
        CHECK.is("place of the fault of the trials", x.fault(1), 0);
        busy.unchanged(x, "trials with a fault", "fault tape");
        x = busy();
        x.trials(8);
        CHECK.is("the tape is empty behind a fault of trials", x.feed(0, 0, 0, 0, 0), 20);
    }

    private static void refusedAsking(RefusedTest fresh, RefusedTest busy) {
        CHECK.promise(13);
        for (int no : new int[] {-1, 12, LOW, HIGH}) {
            busy.refused("told " + no, 1, x -> x.told(no));
        }
        CHECK.promise(14);
        fresh.refused("mile of none", 1, x -> x.mile(0));
        for (int no : new int[] {-1, 3, LOW, HIGH}) {
            busy.refused("mile " + no, 1, x -> x.mile(no));
        }
        CHECK.promise(15);
        fresh.refused("person of none", 1, x -> x.person(0, 0));
        for (int no : new int[] {-1, 5, LOW, HIGH}) {
            busy.refused("person " + no, 1, x -> x.person(no, 0));
            busy.refused("twin of " + no, 1, x -> x.person(no, 3));
        }
        for (int no : new int[] {-1, 6, LOW, HIGH}) {
            busy.refused("person what " + no, 1, x -> x.person(KID, no));
        }
        busy.refused("no twin", 6, x -> x.person(KID, 3));
        for (int no : new int[] {-1, 5, LOW, HIGH}) {
            CHECK.promise(16);
            busy.refused("knows first " + no, 1, x -> x.knows(no, 0));
            busy.refused("knows second " + no, 1, x -> x.knows(0, no));
            CHECK.promise(17);
            busy.refused("kin " + no, 1, x -> x.kin(no));
            CHECK.promise(18);
            busy.refused("known person " + no, 1, x -> x.known(no, 0));
        }
        CHECK.promise(16);
        busy.refused("knows itself", 1, x -> x.knows(4, 4));
        CHECK.promise(17);
        fresh.refused("kin of none", 1, x -> x.kin(0));
        CHECK.promise(18);
        for (int no : new int[] {-1, 8, LOW, HIGH}) {
            busy.refused("known hour " + no, 1, x -> x.known(ANN, no));
        }
        busy.refused("not known", 6, x -> x.known(ANN, 1));
        busy.refused("not known in the last hour", 6, x -> x.known(EVE, 7));
        CHECK.promise(19);
        fresh.refused("oath of none", 1, x -> x.oath(0, 0));
        int oaths = busy().told(2);
        for (int no : new int[] {-1, oaths, 16, LOW, HIGH}) {
            busy.refused("oath " + no, 1, x -> x.oath(no, 0));
        }
        for (int no : new int[] {-1, 8, LOW, HIGH}) {
            busy.refused("oath what " + no, 1, x -> x.oath(0, no));
        }
    }

    private interface Four {
        long on(OathTill x, int witness, int person, int place, int hour);
    }

    /** Each of four numbers too small and too large. */
    private void wrongOaths(String name, Four call) {
        for (int no : new int[] {-1, 5, LOW, HIGH}) {
            refused(name + " witness " + no, 1, x -> call.on(x, no, KID, INN, 1));
            refused(name + " person " + no, 1, x -> call.on(x, ANN, no, INN, 1));
        }
        wrongPlaces(name, call);
    }

    private void wrongPlaces(String name, Four call) {
        for (int no : new int[] {-1, 3, LOW, HIGH}) {
            refused(name + " place " + no, 1, x -> call.on(x, ANN, KID, no, 1));
        }
        for (int no : new int[] {-1, 8, LOW, HIGH}) {
            refused(name + " hour " + no, 1, x -> call.on(x, ANN, KID, INN, no));
        }
    }

    private void wrongSayings(String name, Four call) {
        for (int no : new int[] {-1, 5, LOW, HIGH}) {
            refused(name + " person " + no, 1, x -> call.on(x, 0, no, INN, 1));
        }
        wrongPlaces(name, call);
    }

    private static void refusedSwearing(RefusedTest fresh, RefusedTest busy, RefusedTest full) {
        CHECK.promise(20);
        fresh.refused("why of nobody", 1, x -> x.why(0, 0, 0, 0));
        busy.wrongOaths("why", OathTill::why);
        CHECK.promise(21);
        busy.wrongOaths("fee", OathTill::fee);
        CHECK.promise(22);
        busy.wrongOaths("gainsaid", OathTill::gainsaid);
        CHECK.promise(23);
        busy.wrongSayings("backed", (x, w, p, l, h) -> x.backed(p, l, h));
        CHECK.promise(24);
        busy.wrongOaths("voids", OathTill::voids);
        full.refused("voids wrong ahead of what can't be", 1, x -> x.voids(0, 0, 2, 0));
        CHECK.promise(25);
        busy.wrongOaths("swear", OathTill::swear);
        full.refused("swear wrong ahead of what can't be", 1, x -> x.swear(0, 0, 0, 8));
        hindered(busy, full, "voids", OathTill::voids, 24);
        hindered(busy, full, "swear", OathTill::swear, 25);
        CHECK.promise(26);
        busy.wrongSayings("find", (x, w, p, l, h) -> x.find(p, l, h));
        fresh.refused("find nobody", 1, x -> x.find(0, 0, 0));
        refusedChanges(fresh, busy, full);
    }

    /** By each of the five reasons. */
    private static void hindered(RefusedTest busy, RefusedTest full, String name, Four call, int promise) {
        CHECK.promise(promise);
        full.refused(name + " a 17th", 7, x -> call.on(x, 0, 1, 0, 0));
        busy.refused(name + " twice", 7, x -> call.on(x, ANN, KID, INN, 1));
        busy.refused(name + " what was never doubted", 7, x -> call.on(x, BEN, ANN, PORT, 0));
        RefusedTest friends = new RefusedTest("friends", () -> {
            OathTill x = busy();
            x.swear(ANN, POPE, INN, 2);
            return x;
        });
        CHECK.is("4", friends.maker.get().why(EVE, POPE, INN, 7), 4);
        friends.refused(name + " by a friend", 7, x -> call.on(x, EVE, POPE, INN, 7));
        RefusedTest poor = new RefusedTest("the poor", () -> {
            OathTill x = busy();
            x.swear(ANN, POPE, INN, 2);
            x.swear(POPE, POPE, MILL, 2);
            return x;
        });
        CHECK.is("5", poor.maker.get().why(KID, POPE, PORT, 2), 5);
        poor.refused(name + " by the poor", 7, x -> call.on(x, KID, POPE, PORT, 2));
    }

    private static void refusedChanges(RefusedTest fresh, RefusedTest busy, RefusedTest full) {
        CHECK.promise(27);
        int oaths = busy().told(2);
        for (int no : new int[] {-1, oaths, 16, LOW, HIGH}) {
            busy.refused("recant " + no, 1, x -> x.recant(no));
        }
        CHECK.is("void", busy().oath(2, 5), 1);
        busy.refused("recant what is void", 7, x -> x.recant(2));
        CHECK.is("recanted", busy().oath(4, 5), 2);
        busy.refused("recant what was recanted", 7, x -> x.recant(4));
        CHECK.promise(28);
        for (int no : new int[] {-1, 5, LOW, HIGH}) {
            busy.refused("earn of " + no, 1, x -> x.earn(no, 1));
        }
        for (int no : new int[] {0, -1, 1000, LOW, HIGH}) {
            busy.refused("earn " + no, 1, x -> x.earn(ANN, no));
            full.refused("earn wrong ahead of too much " + no, 1, x -> x.earn(0, no));
        }
        full.refused("earn one above 9,999", 7, x -> x.earn(0, 1));
        full.refused("earn far above 9,999", 7, x -> x.earn(0, 999));
        CHECK.promise(29);
        for (int no : new int[] {-1, 5, LOW, HIGH}) {
            busy.denied("meet first " + no, 1, x -> x.meet(no, 0));
            busy.denied("meet second " + no, 1, x -> x.meet(0, no));
        }
        busy.denied("meet itself", 1, x -> x.meet(KID, KID));
        busy.denied("meet again", 7, x -> x.meet(ANN, EVE));
        busy.denied("meet again from there", 7, x -> x.meet(EVE, ANN));
        fresh.denied("meet nobody", 1, x -> x.meet(0, 1));
        CHECK.promise(30);
        for (int no : new int[] {-1, 61, LOW, HIGH}) {
            busy.denied("ride " + no, 1, x -> x.ride(no));
        }
    }

    private interface One {
        long on(OathTill x, int person);
    }

    private void wrongPersons(String name, int promise, One call) {
        CHECK.promise(promise);
        for (int no : new int[] {-1, 5, LOW, HIGH}) {
            refused(name + " " + no, 1, x -> call.on(x, no));
        }
    }

    private void wrongHours(String name, int promise, One call) {
        CHECK.promise(promise);
        for (int no : new int[] {-1, 8, LOW, HIGH}) {
            refused(name + " hour " + no, 1, x -> call.on(x, no));
        }
    }

    private static void refusedPlans(RefusedTest fresh, RefusedTest busy, RefusedTest full) {
        CHECK.promise(31);
        int oaths = busy().told(2);
        for (int no : new int[] {-1, oaths, 16, LOW, HIGH}) {
            busy.refused("fits first " + no, 1, x -> x.fits(no, 0));
            busy.refused("fits second " + no, 1, x -> x.fits(0, no));
        }
        CHECK.promise(32);
        for (int no : new int[] {-1, 3, LOW, HIGH}) {
            busy.refused("road from " + no, 1, x -> x.road(no, 0));
            busy.refused("road to " + no, 1, x -> x.road(0, no));
        }
        RefusedTest slow = new RefusedTest("the slow", () -> {
            OathTill x = busy();
            x.ride(0);
            return x;
        });
        slow.refused("road by speed 0", 6, x -> x.road(INN, PORT));
        slow.refused("no road by speed 0", 1, x -> x.road(INN, 3));
        busy.wrongPersons("canBe", 33, (x, p) -> x.canBe(p, 0));
        busy.wrongHours("canBe", 33, (x, h) -> x.canBe(0, h));
        busy.wrongPersons("ways", 34, (x, p) -> x.ways(p, true));
        busy.wrongPersons("ways by what is known", 34, (x, p) -> x.ways(p, false));
        busy.wrongPersons("reach", 35, (x, p) -> x.reach(p, 0, true));
        busy.wrongHours("reach", 35, (x, h) -> x.reach(0, h, false));
        busy.wrongPersons("mostTrue", 36, OathTill::mostTrue);
        busy.wrongPersons("mostTrueSet", 37, OathTill::mostTrueSet);
        busy.wrongPersons("clashes", 38, OathTill::clashes);
        busy.wrongPersons("doubt", 39, OathTill::doubt);
        busy.wrongPersons("believed", 40, (x, p) -> x.believed(p, 0));
        busy.wrongHours("believed", 40, (x, h) -> x.believed(0, h));
        busy.refused("believed by none", 6, x -> x.believed(POPE, 7));
        refusedAlibis(fresh, busy);
        refusedLiars(fresh, busy, full);
    }

    private static void refusedAlibis(RefusedTest fresh, RefusedTest busy) {
        CHECK.promise(41);
        busy.wrongSayings("alibi", (x, w, p, l, h) -> x.alibi(p, l, h, 1));
        for (int no : new int[] {0, -1, 7, LOW, HIGH}) {
            busy.refused("alibi by " + no, 1, x -> x.alibi(EVE, INN, 3, no));
        }
        busy.refused("alibi by more than there are", 6, x -> x.alibi(EVE, INN, 3, 6));
        busy.refused("alibi against what is known", 6, x -> x.alibi(BEN, MILL, 3, 1));
        CHECK.promise(42);
        for (int no : new int[] {-1, 2, LOW, HIGH}) {
            busy.refused("alibiBy " + no, 1, x -> x.alibiBy(no));
            fresh.refused("alibiBy without one " + no, 1, x -> x.alibiBy(no));
        }
        fresh.refused("alibiBy without one", 6, x -> x.alibiBy(0));
        fresh.refused("alibiBy without one, the set", 6, x -> x.alibiBy(1));
        busy.wrongPersons("call by", 43, (x, p) -> x.call(p, 0));
        busy.wrongPersons("call of", 43, (x, p) -> x.call(0, p));
        CHECK.promise(44);
        for (int no : new int[] {-1, 3, LOW, HIGH}) {
            busy.refused("callBy " + no, 1, x -> x.callBy(no));
            fresh.refused("callBy without one " + no, 1, x -> x.callBy(no));
        }
        for (int what = 0; what < 3; what++) {
            int no = what;
            fresh.refused("callBy without one, what " + no, 6, x -> x.callBy(no));
        }
        busy.wrongPersons("sayable by", 45, (x, p) -> x.sayable(p, 0));
        busy.wrongPersons("sayable of", 45, (x, p) -> x.sayable(0, p));
        busy.wrongPersons("dearest by", 46, (x, p) -> x.dearest(p, 0));
        busy.wrongPersons("dearest of", 46, (x, p) -> x.dearest(0, p));
    }

    private static void refusedLiars(RefusedTest fresh, RefusedTest busy, RefusedTest full) {
        RefusedTest called = new RefusedTest("a full one of which was asked", () -> {
            OathTill x = new OathTill();
            Check.court(x, "place inn at 0;place mill at 3;person ann purse 7;base 7;");
            x.alibi(0, 0, 0, 1);
            x.call(0, 0);
            x.swear(0, 0, 1, 1);
            x.kept();
            return x;
        });
        CHECK.promise(41);
        called.refused("alibi of the poor", 6, x -> x.alibi(0, 0, 0, 1));
        CHECK.promise(43);
        called.refused("call of the poor", 6, x -> x.call(0, 0));
        full.refused("call with 16 oaths", 6, x -> x.call(0, 1));
        CHECK.promise(46);
        called.refused("dearest of the poor", 6, x -> x.dearest(0, 0));
        full.refused("dearest with 16 oaths", 6, x -> x.dearest(0, 1));
        CHECK.promise(47);
        fresh.refused("liar of none", 6, OathTill::liar);
        full.refused("liar of 16 true ones", 6, OathTill::liar);
        CHECK.promise(48);
        fresh.refused("doubted of none", 6, OathTill::doubted);
        full.refused("doubted of 16 that agree", 6, OathTill::doubted);
        CHECK.promise(49);
        fresh.denied("kept of none", 6, OathTill::kept);
        full.denied("kept of 16 that are free", 6, OathTill::kept);
        busy.wrongPersons("word of", 50, (x, p) -> x.word(p, 0));
        for (int no : new int[] {-1, 3, LOW, HIGH}) {
            busy.refused("word what " + no, 1, x -> x.word(0, no));
        }
        busy.wrongPersons("liars", 51, OathTill::liars);
        fresh.refused("liars of none", 1, x -> x.liars(0));
    }

    private static void refusedTrials(RefusedTest fresh, RefusedTest busy) {
        for (int no : new int[] {-1, 10000, LOW, HIGH}) {
            CHECK.promise(54);
            busy.refused("live " + no, 1, x -> x.live(no));
            fresh.refused("live without trials " + no, 1, x -> x.live(no));
            CHECK.promise(56);
            busy.denied("mean from " + no, 1, x -> x.mean(no, 1));
            fresh.denied("mean without trials from " + no, 1, x -> x.mean(no, 1));
        }
        CHECK.promise(54);
        fresh.refused("live without trials", 6, x -> x.live(0));
        CHECK.promise(55);
        for (int no : new int[] {-1, 5, LOW, HIGH}) {
            busy.refused("lived " + no, 1, x -> x.lived(no));
            fresh.refused("lived without one " + no, 1, x -> x.lived(no));
        }
        for (int what = 0; what < 5; what++) {
            int no = what;
            fresh.refused("lived without one, what " + no, 6, x -> x.lived(no));
        }
        CHECK.promise(56);
        for (int no : new int[] {0, -1, 21, LOW, HIGH}) {
            busy.denied("mean by " + no, 1, x -> x.mean(0, no));
            fresh.denied("mean without trials by " + no, 1, x -> x.mean(0, no));
        }
        busy.denied("mean, the last of two above 9,999", 1, x -> x.mean(9999, 2));
        busy.denied("mean, the last of 20 above 9,999", 1, x -> x.mean(9981, 20));
        fresh.denied("mean without trials", 6, x -> x.mean(0, 1));
    }

    private static void refusedMarks(RefusedTest fresh, RefusedTest full) {
        CHECK.promise(57);
        full.refused("a fourth mark", 4, OathTill::mark);
        CHECK.promise(58);
        fresh.refused("undo without a mark", 6, OathTill::undo);
    }

    /** What asks changes nothing but what the document says that it tells. */
    private static void askingChangesNothing(RefusedTest busy) {
        CHECK.promise(20);
        busy.asked("why", "", x -> x.why(EVE, KID, MILL, 2));
        busy.asked("fee", "", x -> x.fee(EVE, KID, MILL, 2));
        busy.asked("gainsaid", "", x -> x.gainsaid(EVE, KID, MILL, 1));
        busy.asked("backed", "", x -> x.backed(KID, INN, 1));
        CHECK.promise(24);
        busy.asked("voids", "", x -> x.voids(KID, EVE, INN, 7));
        CHECK.promise(33);
        busy.asked("canBe", "", x -> x.canBe(BEN, 4));
        busy.asked("ways", "", x -> x.ways(BEN, true));
        busy.asked("reach", "", x -> x.reach(BEN, 4, false));
        busy.asked("mostTrueSet", "", x -> x.mostTrueSet(KID));
        busy.asked("mostTrue", "", x -> x.mostTrue(KID));
        CHECK.promise(41);
        busy.asked("alibi", "alibi", x -> x.alibi(KID, INN, 7, 3));
        CHECK.promise(43);
        busy.asked("call", "call", x -> x.call(ANN, POPE));
        CHECK.promise(45);
        busy.asked("sayable", "", x -> x.sayable(ANN, POPE));
        busy.asked("dearest", "", x -> x.dearest(ANN, POPE));
        CHECK.promise(49);
        busy.asked("kept", "fraction", x -> x.kept() ? 1 : 0);
        CHECK.promise(53);
        busy.asked("hammer", "", x -> x.hammer(1, 2));
        CHECK.promise(56);
        busy.asked("mean", "fraction", x -> x.mean(77, 20) ? 1 : 0);
    }
}
