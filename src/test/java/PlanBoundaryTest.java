/** The boundary cases of ==== 3: where one can have been, ALIBIS, CALLS, who lied the most (promises 32 to 51). */
public final class PlanBoundaryTest {
    private static final Check CHECK = new Check();
    private static final int A = 0;
    private static final int B = 1;
    private static final int C = 2;
    private static final int D = 3;
    private static final int E = 4;
    private static final int F = 5;

    public static void main(String[] args) {
        roads();
        canHaveBeen();
        nowhere();
        manyWays();
        waysAndOaths();
        reachedBySomeWay();
        mostTrueOfSixteen();
        mostTrueLeast();
        clashingCouples();
        doubts();
        believing();
        alibisByAll();
        alibiLimits();
        alibiFees();
        alibiThatCannotBe();
        alibiTold();
        callsThatVoid();
        callsOfSeveral();
        callTold();
        sayables();
        dearests();
        liarsAndDoubted();
        keptParts();
        words();
        liarSets();
        CHECK.end();
    }

    private static OathTill six(String more) {
        return Check.six(more);
    }

    private static OathTill court(String text) {
        OathTill x = new OathTill();
        Check.court(x, text);
        CHECK.is("status of " + text, x.status(), 0);
        return x;
    }

    /** "0: the same; else 1 at least; 6: never, by SPEED 0". */
    private static void roads() {
        CHECK.promise(32);
        OathTill x = six("speed 10;");
        CHECK.taken(x, "just one hour", x.road(0, 1), 1);
        CHECK.taken(x, "just two", x.road(0, 2), 2);
        CHECK.taken(x, "six", x.road(0, 4), 6);
        CHECK.taken(x, "back", x.road(4, 0), 6);
        CHECK.taken(x, "the same", x.road(4, 4), 0);
        CHECK.taken(x, "at one mile", x.road(2, 3), 1);
        x.ride(9);
        CHECK.taken(x, "just above one hour", x.road(0, 1), 2);
        CHECK.taken(x, "just above six", x.road(0, 4), 7);
        x.ride(11);
        CHECK.taken(x, "just below one hour", x.road(0, 1), 1);
        x.ride(60);
        CHECK.taken(x, "60 miles in one hour", x.road(0, 4), 1);
        CHECK.taken(x, "1 at least", x.road(0, 1), 1);
        x.ride(59);
        CHECK.taken(x, "60 miles by 59", x.road(0, 4), 2);
        x.ride(1);
        CHECK.taken(x, "the longest", x.road(4, 0), 60);
        CHECK.taken(x, "10 by 1", x.road(0, 1), 10);
        x.ride(0);
        CHECK.refused(x, "never", x.road(0, 1), 6);
        CHECK.refused(x, "never back", x.road(1, 0), 6);
        CHECK.taken(x, "the same by speed 0", x.road(0, 0), 0);
        CHECK.taken(x, "at one mile by speed 0", x.road(3, 2), 1);
        CHECK.refused(x, "a sixth place", x.road(0, 5), 1);
        CHECK.refused(x, "below", x.road(-1, -1), 1);
    }

    /** "PLACES of a PERSON in an HOUR that FIT all that is KNOWN of it and all OATHS of it that STAND". */
    private static void canHaveBeen() {
        CHECK.promise(33);
        OathTill x = six("was b in la hour 3;");
        CHECK.taken(x, "all of them", x.canBe(A, 0), 31);
        CHECK.taken(x, "in the last hour", x.canBe(A, 7), 31);
        CHECK.taken(x, "in that hour it alone", x.canBe(B, 3), 1);
        CHECK.taken(x, "an hour behind", x.canBe(B, 4), 3);
        CHECK.taken(x, "an hour ahead", x.canBe(B, 2), 3);
        CHECK.taken(x, "two hours ahead", x.canBe(B, 1), 15);
        CHECK.taken(x, "in hour 0", x.canBe(B, 0), 15);
        CHECK.taken(x, "in hour 7", x.canBe(B, 7), 15);
        x.ride(15);
        CHECK.taken(x, "just far enough", x.canBe(B, 7), 31);
        x.ride(14);
        CHECK.taken(x, "just too far", x.canBe(B, 7), 15);
        x.ride(0);
        CHECK.taken(x, "nowhere else", x.canBe(B, 7), 1);
        x.ride(60);
        x.swear(A, B, 4, 5);
        CHECK.taken(x, "an oath in its hour", x.canBe(B, 5), 16);
        x.ride(10);
        CHECK.taken(x, "what does not fit both", x.canBe(B, 4), 0);
        CHECK.taken(x, "not even in what is known", x.canBe(B, 3), 0);
        x.recant(0);
        CHECK.taken(x, "recanted", x.canBe(B, 5), 15);
        CHECK.taken(x, "of another", x.canBe(C, 5), 31);
        OathTill y = six("was b in la hour 0;was c in le hour 7;");
        CHECK.taken(y, "by what is known of hour 0", y.canBe(B, 1), 3);
        CHECK.taken(y, "by what is known of hour 7", y.canBe(C, 6), 16);
        y.swear(A, D, 0, 0);
        y.swear(A, E, 4, 7);
        CHECK.taken(y, "by an oath of hour 0", y.canBe(D, 1), 3);
        CHECK.taken(y, "by an oath of hour 7", y.canBe(E, 6), 16);
    }

    /** Without PLACES there are no WAYS; in one PLACE there is one. */
    private static void nowhere() {
        OathTill x = court("person a purse 0;");
        CHECK.promise(33);
        CHECK.taken(x, "no places", x.canBe(0, 0), 0);
        CHECK.promise(34);
        CHECK.taken(x, "no ways", x.ways(0, true), 0);
        CHECK.taken(x, "none by what is known", x.ways(0, false), 0);
        CHECK.promise(35);
        CHECK.taken(x, "none to reach", x.reach(0, 7, true), 0);
        CHECK.promise(36);
        CHECK.taken(x, "none is true", x.mostTrue(0), 0);
        CHECK.promise(37);
        CHECK.taken(x, "the empty set", x.mostTrueSet(0), 0);
        CHECK.promise(45);
        CHECK.taken(x, "nothing to say", x.sayable(0, 0), 0);
        CHECK.promise(46);
        CHECK.refused(x, "no dearest", x.dearest(0, 0), 6);
        CHECK.promise(43);
        CHECK.refused(x, "no call", x.call(0, 0), 6);
        CHECK.promise(40);
        CHECK.refused(x, "nothing is believed", x.believed(0, 0), 6);
        CHECK.promise(41);
        CHECK.refused(x, "no such place", x.alibi(0, 0, 0, 1), 1);
        OathTill y = court("person a purse 9;place l at 60;speed 0;");
        CHECK.promise(34);
        CHECK.taken(y, "one way", y.ways(0, true), 1);
        CHECK.promise(33);
        CHECK.taken(y, "one place", y.canBe(0, 7), 1);
        CHECK.promise(35);
        CHECK.taken(y, "one to reach", y.reach(0, 0, false), 1);
        CHECK.promise(45);
        CHECK.taken(y, "eight hours to say", y.sayable(0, 0), 8);
        CHECK.promise(41);
        CHECK.refused(y, "no other place", y.alibi(0, 0, 0, 1), 6);
    }

    /** "a PLACE in each HOUR 0 to 7, so that all HOURS side by side FIT": from none to 5 to the eighth. */
    private static void manyWays() {
        CHECK.promise(34);
        OathTill x = six("speed 60;");
        CHECK.taken(x, "all", x.ways(A, false), 390625);
        CHECK.taken(x, "all with no oaths", x.ways(A, true), 390625);
        x.ride(59);
        CHECK.taken(x, "but not from end to end", x.ways(A, false) < 390625 ? 1 : 0, 1);
        x.ride(0);
        CHECK.taken(x, "to stay, and two at one mile", x.ways(A, false), 3 + 256);
        x.ride(9);
        CHECK.taken(x, "9 miles are too few", x.ways(A, false), 3 + 256);
        x.ride(10);
        CHECK.taken(x, "10 miles are enough", x.ways(A, false) > 3 + 256 ? 1 : 0, 1);
        OathTill y = court("place la at 0;place lb at 10;person a purse 0;");
        CHECK.taken(y, "two to the eighth", y.ways(0, false), 256);
        y.ride(9);
        CHECK.taken(y, "two", y.ways(0, false), 2);
        y.find(0, 0, 0);
        CHECK.taken(y, "by the first hour", y.ways(0, false), 1);
        y.find(0, 1, 7);
        CHECK.taken(y, "by the last none", y.ways(0, false), 0);
        y.ride(10);
        CHECK.taken(y, "six hours between", y.ways(0, false), 64);
        for (int hour = 0; hour < 8; hour++) {
            y.find(0, hour % 2, hour);
        }
        CHECK.taken(y, "all is known", y.ways(0, false), 1);
        y.ride(9);
        CHECK.taken(y, "and can't have been", y.ways(0, false), 0);
    }

    /** "and what is KNOWN, and (or without these) OATHS that STAND hold". */
    private static void waysAndOaths() {
        CHECK.promise(34);
        OathTill x = six("speed 60;");
        x.swear(A, B, 0, 0);
        CHECK.taken(x, "one hour is sworn", x.ways(B, true), 78125);
        CHECK.taken(x, "by what is known alone", x.ways(B, false), 390625);
        x.swear(C, B, 0, 0);
        CHECK.taken(x, "twice the same", x.ways(B, true), 78125);
        x.swear(D, B, 1, 0);
        CHECK.taken(x, "two places in one hour", x.ways(B, true), 0);
        x.recant(2);
        CHECK.taken(x, "that stand", x.ways(B, true), 78125);
        x.swear(A, B, 4, 7);
        CHECK.taken(x, "two hours", x.ways(B, true), 15625);
        x.find(B, 1, 3);
        CHECK.taken(x, "and what is known", x.ways(B, true), 3125);
        CHECK.taken(x, "what is known alone", x.ways(B, false), 78125);
        x.find(B, 0, 0);
        CHECK.taken(x, "sworn and known", x.ways(B, true), 3125);
        CHECK.taken(x, "of another", x.ways(A, true), 390625);
        OathTill y = six("speed 60;was b in la hour 4;");
        y.swear(A, B, 0, 1);
        y.swear(C, B, 1, 1);
        y.swear(D, B, 2, 4);
        y.recant(0);
        CHECK.taken(y, "sworn against what is known", y.ways(B, true), 0);
        CHECK.taken(y, "without it", y.ways(B, false), 78125);
    }

    /** "The set of PLACES in which a PERSON is in an HOUR by some of its WAYS". */
    private static void reachedBySomeWay() {
        CHECK.promise(35);
        OathTill x = six("was b in la hour 0;");
        CHECK.taken(x, "hour 0", x.reach(B, 0, false), 1);
        CHECK.taken(x, "hour 1", x.reach(B, 1, false), 3);
        CHECK.taken(x, "hour 2", x.reach(B, 2, false), 15);
        CHECK.taken(x, "hour 7: 40 miles are too far in one", x.reach(B, 7, false), 15);
        CHECK.taken(x, "of who is not known", x.reach(A, 7, false), 31);
        x.ride(40);
        CHECK.taken(x, "40 miles in one hour", x.reach(B, 2, false), 31);
        x.ride(39);
        CHECK.taken(x, "not by 39", x.reach(B, 7, false), 15);
        x.ride(10);
        x.swear(A, B, 2, 7);
        CHECK.taken(x, "what is sworn", x.reach(B, 7, true), 4);
        CHECK.taken(x, "the hour ahead of it", x.reach(B, 6, true), 14);
        CHECK.taken(x, "without it", x.reach(B, 6, false), 15);
        CHECK.taken(x, "hour 0 with it", x.reach(B, 0, true), 1);
        x.ride(60);
        x.swear(C, B, 4, 6);
        x.ride(10);
        CHECK.taken(x, "none now", x.reach(B, 0, true), 0);
        CHECK.taken(x, "none in the last", x.reach(B, 7, true), 0);
        CHECK.refused(x, "hour 8", x.reach(B, 8, true), 1);
        OathTill y = six("was b in la hour 1;was c in la hour 6;");
        CHECK.taken(y, "hour 0 by hour 1", y.reach(B, 0, false), 3);
        CHECK.taken(y, "hour 7 by hour 6", y.reach(C, 7, false), 3);
        CHECK.taken(y, "hour 0 by hour 6", y.reach(C, 0, true), 15);
    }

    /** "of OATHS of a PERSON that STAND the most that all FIT each other": all 16. */
    private static void mostTrueOfSixteen() {
        OathTill x = six("");
        for (int i = 0; i < 16; i++) {
            x.swear(i / 8, D, 0, i % 8);
        }
        CHECK.promise(36);
        CHECK.taken(x, "all 16", x.mostTrue(D), 16);
        CHECK.promise(37);
        CHECK.taken(x, "the set of 16", x.mostTrueSet(D), 65535);
        x.recant(15);
        CHECK.taken(x, "but the last", x.mostTrueSet(D), 32767);
        x.recant(0);
        CHECK.taken(x, "nor the first", x.mostTrueSet(D), 32766);
        CHECK.promise(36);
        CHECK.taken(x, "14", x.mostTrue(D), 14);
        CHECK.taken(x, "of another none", x.mostTrue(E), 0);
        OathTill y = six("");
        for (int i = 0; i < 15; i++) {
            y.swear(A, i / 8, 0, i % 8);
        }
        y.swear(F, D, 0, 0);
        CHECK.promise(37);
        CHECK.taken(y, "the last one alone", y.mostTrueSet(D), 32768);
        CHECK.promise(36);
        CHECK.taken(y, "one", y.mostTrue(D), 1);
    }

    /** "of several sets the least as a number (1 for OATH 0 ..)". */
    private static void mostTrueLeast() {
        CHECK.promise(37);
        OathTill x = six("speed 60;");
        x.swear(A, D, 1, 5);
        x.swear(B, D, 0, 5);
        CHECK.taken(x, "the first of two", x.mostTrueSet(D), 1);
        x.swear(C, D, 4, 0);
        CHECK.taken(x, "both may be with it", x.mostTrueSet(D), 1 + 4);
        x.ride(11);
        CHECK.taken(x, "the one that fits", x.mostTrueSet(D), 1 + 4);
        x.ride(9);
        CHECK.taken(x, "none of two fits: the least alone", x.mostTrueSet(D), 1);
        x.ride(60);
        x.swear(F, D, 0, 5);
        x.ride(9);
        CHECK.taken(x, "two who agree", x.mostTrueSet(D), 2 + 8);
        x.ride(12);
        CHECK.taken(x, "with the third", x.mostTrueSet(D), 2 + 4 + 8);
        x.ride(11);
        CHECK.taken(x, "two and two: the least", x.mostTrueSet(D), 1 + 4);
        CHECK.promise(36);
        CHECK.taken(x, "two", x.mostTrue(D), 2);
        OathTill y = six("speed 60;");
        y.swear(A, D, 2, 3);
        y.swear(B, D, 3, 3);
        CHECK.promise(37);
        CHECK.taken(y, "at one mile, but in one hour", y.mostTrueSet(D), 1);
        y.recant(0);
        CHECK.taken(y, "the other", y.mostTrueSet(D), 2);
        y.find(D, 3, 3);
        CHECK.taken(y, "true ones, too", y.mostTrueSet(D), 2);
    }

    /** "How many couples of OATHS of a PERSON that STAND do not FIT". */
    private static void clashingCouples() {
        CHECK.promise(38);
        OathTill x = six("speed 60;");
        CHECK.taken(x, "of none", x.clashes(D), 0);
        x.swear(A, D, 0, 0);
        CHECK.taken(x, "of one", x.clashes(D), 0);
        x.swear(B, D, 0, 0);
        CHECK.taken(x, "who agree", x.clashes(D), 0);
        x.swear(C, D, 2, 0);
        CHECK.taken(x, "one against two", x.clashes(D), 2);
        x.swear(E, D, 3, 0);
        CHECK.taken(x, "at one mile in one hour", x.clashes(D), 5);
        x.swear(F, D, 2, 1);
        CHECK.taken(x, "all fit that", x.clashes(D), 5);
        x.ride(20);
        CHECK.taken(x, "just", x.clashes(D), 5);
        x.ride(19);
        CHECK.taken(x, "just not", x.clashes(D), 7);
        x.recant(0);
        CHECK.taken(x, "that stand", x.clashes(D), 4);
        CHECK.taken(x, "of another", x.clashes(E), 0);
        OathTill y = six("speed 60;");
        for (int hour = 0; hour < 8; hour++) {
            y.swear(A, D, 0, hour);
            y.swear(B, D, 4, hour);
        }
        y.ride(0);
        CHECK.taken(y, "eight against eight", y.clashes(D), 64);
    }

    /** "how many of its HOURS have OATHS that STAND in two or more PLACES": 0 to 8. */
    private static void doubts() {
        CHECK.promise(39);
        OathTill x = six("speed 60;");
        for (int hour = 0; hour < 8; hour++) {
            CHECK.taken(x, "ahead of hour " + hour, x.doubt(D), hour);
            x.swear(A, D, 0, hour);
            CHECK.taken(x, "one place in hour " + hour, x.doubt(D), hour);
            x.swear(B, D, 4, hour);
        }
        CHECK.taken(x, "all hours", x.doubt(D), 8);
        x.recant(0);
        CHECK.taken(x, "that stand", x.doubt(D), 7);
        CHECK.taken(x, "of another", x.doubt(A), 0);
        OathTill y = six("");
        y.swear(A, D, 0, 7);
        y.swear(B, D, 1, 7);
        y.swear(C, D, 2, 7);
        CHECK.taken(y, "three places are one hour", y.doubt(D), 1);
        y.swear(A, E, 2, 0);
        y.swear(B, E, 3, 0);
        CHECK.taken(y, "two places at one mile", y.doubt(E), 1);
        y.swear(A, F, 2, 0);
        y.swear(B, F, 3, 1);
        CHECK.taken(y, "in two hours", y.doubt(F), 0);
        y.find(D, 1, 7);
        CHECK.taken(y, "found", y.doubt(D), 0);
    }

    /** "The PLACE that the most OATHS that STAND say of a PERSON and an HOUR, of several the first (6: none does)". */
    private static void believing() {
        CHECK.promise(40);
        OathTill x = six("was d in la hour 0;");
        CHECK.refused(x, "what is known is no oath", x.believed(D, 0), 6);
        x.swear(A, D, 4, 7);
        CHECK.taken(x, "one, the last place, the last hour", x.believed(D, 7), 4);
        x.swear(B, D, 0, 7);
        CHECK.taken(x, "of two the first", x.believed(D, 7), 0);
        x.swear(C, D, 4, 7);
        CHECK.taken(x, "the most", x.believed(D, 7), 4);
        x.swear(F, D, 0, 7);
        CHECK.taken(x, "two and two", x.believed(D, 7), 0);
        x.recant(1);
        CHECK.taken(x, "that stand", x.believed(D, 7), 4);
        CHECK.refused(x, "of the hour ahead none", x.believed(D, 6), 6);
        CHECK.refused(x, "of another none", x.believed(E, 7), 6);
        CHECK.refused(x, "hour 8", x.believed(D, 8), 1);
    }

    /** "by n WITNESSES (1 to 6)". */
    private static void alibisByAll() {
        CHECK.promise(41);
        OathTill x = six("");
        int[] sets = {32, 32 + 1, 32 + 3, 32 + 7, 32 + 15, 63};
        for (int n = 1; n <= 6; n++) {
            CHECK.promise(41);
            CHECK.taken(x, "by " + n, x.alibi(D, 0, 7, n), 5 * (n - 1));
            CHECK.promise(42);
            CHECK.taken(x, "the first other place by " + n, x.alibiBy(0), 1);
            CHECK.taken(x, "the least set by " + n, x.alibiBy(1), sets[n - 1]);
        }
        CHECK.promise(41);
        CHECK.taken(x, "for another place", x.alibi(D, 1, 0, 6), 25);
        CHECK.promise(42);
        CHECK.taken(x, "the first", x.alibiBy(0), 0);
        CHECK.promise(41);
        CHECK.refused(x, "by 0", x.alibi(D, 0, 7, 0), 1);
        CHECK.refused(x, "by 7", x.alibi(D, 0, 7, 7), 1);
        CHECK.taken(x, "nothing was sworn", x.told(2), 0);
        CHECK.taken(x, "nothing was paid", x.person(A, 0), 999);
        OathTill y = court("place la at 0;place lb at 0;person a purse 9;");
        CHECK.taken(y, "by the one there is", y.alibi(0, 1, 0, 1), 5);
        CHECK.refused(y, "by two of one", y.alibi(0, 1, 0, 2), 6);
        CHECK.refused(y, "by six of one", y.alibi(0, 1, 0, 6), 6);
    }

    /** "there are 16 OATHS", the PURSE, DOUBT and friends hold for each of the n as SWEAR has it. */
    private static void alibiLimits() {
        CHECK.promise(41);
        OathTill x = six("");
        for (int i = 0; i < 13; i++) {
            x.swear(F, i / 7, 0, i % 7);
        }
        CHECK.taken(x, "13 and 3", x.alibi(D, 0, 7, 3), 10);
        CHECK.refused(x, "13 and 4", x.alibi(D, 0, 7, 4), 6);
        x.swear(F, C, 0, 0);
        x.swear(F, C, 0, 1);
        CHECK.taken(x, "15 and 1", x.alibi(D, 0, 7, 1), 0);
        CHECK.refused(x, "15 and 2", x.alibi(D, 0, 7, 2), 6);
        x.swear(F, C, 0, 2);
        CHECK.refused(x, "16 and 1", x.alibi(D, 0, 7, 1), 6);
        OathTill y = court("place la at 0;place lb at 0;person a purse 5;person b purse 4;person c purse 5;");
        CHECK.taken(y, "as much as there is", y.alibi(0, 0, 0, 2), 10);
        CHECK.taken(y, "without the poor", y.alibiBy(1), 1 + 4);
        CHECK.refused(y, "the poor can't", y.alibi(0, 0, 0, 3), 6);
        y.earn(1, 1);
        CHECK.taken(y, "with a penny more", y.alibi(0, 0, 0, 3), 15);
        y.meet(0, 2);
        CHECK.refused(y, "friends can't", y.alibi(0, 0, 0, 3), 6);
        CHECK.taken(y, "without one of them", y.alibi(0, 0, 0, 2), 10);
        CHECK.taken(y, "the least set", y.alibiBy(1), 1 + 2);
        y.find(0, 1, 0);
        CHECK.taken(y, "what is true all can", y.alibi(0, 0, 0, 3), 0);
        CHECK.refused(y, "what is known, nobody", y.alibi(0, 1, 0, 1), 6);
    }

    /** "one behind the other by numbers, each as SWEAR has it then": TWINS, GAINSAYERS, CHILDREN. */
    private static void alibiFees() {
        CHECK.promise(41);
        OathTill x = court("place la at 0;place lb at 0;person a purse 99;person b purse 99;person c purse 99;twins a c;base 9;");
        CHECK.taken(x, "one", x.alibi(1, 0, 0, 1), 9);
        CHECK.taken(x, "two: the twins", x.alibi(1, 0, 0, 2), 9 + 5);
        CHECK.taken(x, "their set", x.alibiBy(1), 1 + 4);
        CHECK.taken(x, "three", x.alibi(1, 0, 0, 3), 9 + 9 + 5);
        OathTill y = court("place la at 0;place lb at 0;place lc at 0;person a purse 99 child;person b purse 99;person c purse 99;"
            + "person d purse 0 bishop;base 9;more 4;");
        y.swear(3, 1, 2, 0);
        CHECK.taken(y, "gainsaid by the bishop", y.alibi(1, 2, 0, 1), 13);
        CHECK.taken(y, "the child first, then none gainsays", y.alibi(1, 2, 0, 2), 13 + 9);
        CHECK.taken(y, "the child's set", y.alibiBy(1), 1 + 2);
        CHECK.taken(y, "of several places the first", y.alibiBy(0), 0);
        CHECK.taken(y, "three by the child", y.alibi(1, 2, 0, 3), 13 + 9 + 9);
        CHECK.taken(y, "the least fees, where the bishop says it is", y.alibi(1, 0, 0, 1), 9);
        CHECK.taken(y, "not the first place", y.alibiBy(0), 2);
        CHECK.taken(y, "two there", y.alibi(1, 1, 0, 2), 9 + 9);
        CHECK.taken(y, "that place", y.alibiBy(0), 2);
        CHECK.taken(y, "its least set", y.alibiBy(1), 1 + 2);
        CHECK.refused(y, "the bishop has sworn of that hour", y.alibi(1, 0, 0, 4), 6);
        CHECK.taken(y, "the bishop's is not touched", y.oath(0, 5), 0);
    }

    /** "none may be refused; at the end all of these STAND". */
    private static void alibiThatCannotBe() {
        CHECK.promise(41);
        OathTill x = court("place la at 0;place lb at 10;place lc at 20;person a purse 99;person b purse 99;speed 10;");
        x.swear(0, 0, 0, 0);
        CHECK.taken(x, "what fits the lie", x.alibi(0, 0, 1, 1), 5);
        CHECK.taken(x, "at lb", x.alibiBy(0), 1);
        CHECK.taken(x, "at la alone", x.alibi(0, 1, 1, 1), 5);
        CHECK.taken(x, "the place", x.alibiBy(0), 0);
        x.ride(9);
        CHECK.refused(x, "none fits", x.alibi(0, 0, 1, 1), 6);
        CHECK.taken(x, "the latest with 0 is told", x.alibiBy(0), 0);
        x.recant(0);
        CHECK.taken(x, "recanted", x.alibi(0, 0, 1, 1), 5);
        CHECK.taken(x, "lb again", x.alibiBy(0), 1);
        x.swear(0, 0, 0, 1);
        CHECK.taken(x, "who has sworn of that hour can't", x.alibi(0, 1, 1, 1), 5);
        CHECK.taken(x, "the other can", x.alibiBy(1), 2);
        CHECK.refused(x, "both can't", x.alibi(0, 1, 1, 2), 6);
        // void OATHS that were taken back leave no trace
        OathTill y = court("place la at 0;place lb at 60;person a purse 99;person b purse 99;speed 10;");
        y.swear(0, 0, 0, 0);
        y.mark();
        y.swear(1, 0, 1, 1);
        CHECK.taken(y, "void", y.told(5), 2);
        y.undo();
        CHECK.refused(y, "it would be void", y.alibi(0, 0, 1, 1), 6);
        CHECK.taken(y, "it would stand", y.alibi(0, 0, 6, 1), 5);
    }

    /** "by alibi() latest with STATUS 0 .. 6: there was none". */
    private static void alibiTold() {
        CHECK.promise(42);
        OathTill x = court("place la at 0;place lb at 0;person a purse 9;");
        CHECK.refused(x, "none yet", x.alibiBy(0), 6);
        CHECK.refused(x, "no set yet", x.alibiBy(1), 6);
        CHECK.refused(x, "refused", x.alibi(0, 0, 0, 2), 6);
        CHECK.refused(x, "still none", x.alibiBy(0), 6);
        x.alibi(0, 0, 0, 1);
        CHECK.taken(x, "place", x.alibiBy(0), 1);
        CHECK.taken(x, "set", x.alibiBy(1), 1);
        CHECK.refused(x, "what 2", x.alibiBy(2), 1);
        CHECK.refused(x, "what -1", x.alibiBy(-1), 1);
        x.alibi(0, 0, 8, 1);
        CHECK.taken(x, "wrong leaves it", x.alibiBy(0), 1);
        Check.court(x, "");
        CHECK.taken(x, "the latest, whatever came then", x.alibiBy(0), 1);
    }

    /** "that by which the most OATHS of others become VOID". */
    private static void callsThatVoid() {
        CHECK.promise(43);
        OathTill x = six("speed 60;");
        CHECK.taken(x, "none", x.call(A, D), 0);
        for (int hour = 0; hour < 7; hour++) {
            x.swear(B, D, 0, hour);
        }
        x.swear(A, D, 0, 7);
        x.ride(0);
        CHECK.taken(x, "its own does not count", x.call(A, D), 6);
        CHECK.taken(x, "of a stranger all count", x.call(C, D), 8 - 1);
        CHECK.promise(44);
        CHECK.taken(x, "the first hour is dear: gainsaid", x.callBy(2), 5 + 2);
        CHECK.promise(43);
        OathTill y = court("place la at 0;place lb at 0;person a purse 99 child;person b purse 0 bishop;person c purse 99;");
        y.swear(1, 2, 0, 3);
        y.swear(2, 2, 0, 3);
        CHECK.taken(y, "a child", y.call(0, 2), 2);
        CHECK.promise(44);
        CHECK.taken(y, "place", y.callBy(0), 1);
        CHECK.taken(y, "hour", y.callBy(1), 3);
        CHECK.taken(y, "fee", y.callBy(2), 5 + 4);
        CHECK.promise(43);
        CHECK.taken(y, "itself does not count", y.call(1, 2), 0);
    }

    /** "of several the least FEE, then the first by HOUR, then by PLACE". */
    private static void callsOfSeveral() {
        CHECK.promise(44);
        OathTill x = six("was d in lb hour 7;was d in lc hour 5;");
        CHECK.taken(x, "nothing is void", x.call(A, D), 0);
        CHECK.taken(x, "for nothing, in the first such hour", x.callBy(1), 5);
        CHECK.taken(x, "its place", x.callBy(0), 2);
        CHECK.taken(x, "the fee", x.callBy(2), 0);
        x.swear(A, D, 2, 5);
        x.call(A, D);
        CHECK.taken(x, "in the other hour", x.callBy(1), 7);
        x.swear(A, D, 1, 7);
        x.call(A, D);
        CHECK.taken(x, "the first hour", x.callBy(1), 0);
        CHECK.taken(x, "the first place", x.callBy(0), 0);
        CHECK.taken(x, "the base", x.callBy(2), 5);
        x.swear(F, D, 4, 0);
        CHECK.taken(x, "one is void", x.call(B, D), 1);
        CHECK.taken(x, "the first hour in which it can be", x.callBy(1), 1);
        CHECK.taken(x, "its first place", x.callBy(0), 0);
        x.ride(60);
        x.call(B, D);
        CHECK.taken(x, "none void: the true one first", x.callBy(1), 5);
    }

    /** "by call() latest with STATUS 0 .. 6: there was none". */
    private static void callTold() {
        CHECK.promise(44);
        OathTill x = court("place la at 0;person a purse 5;");
        for (int what = 0; what < 3; what++) {
            CHECK.refused(x, "none yet " + what, x.callBy(what), 6);
        }
        CHECK.taken(x, "a call", x.call(0, 0), 0);
        CHECK.taken(x, "fee", x.callBy(2), 5);
        x.swear(0, 0, 0, 7);
        CHECK.promise(43);
        CHECK.refused(x, "no more", x.call(0, 0), 6);
        CHECK.promise(44);
        CHECK.taken(x, "the latest with 0", x.callBy(2), 5);
        CHECK.taken(x, "its place", x.callBy(0), 0);
        CHECK.taken(x, "its hour", x.callBy(1), 0);
        CHECK.refused(x, "what 3", x.callBy(3), 1);
        CHECK.refused(x, "what -1", x.callBy(-1), 1);
        Check.court(x, "");
        CHECK.taken(x, "whatever came then", x.callBy(2), 5);
        CHECK.promise(43);
        CHECK.refused(x, "nobody", x.call(0, 0), 1);
    }

    /** SAYABLE: 0 to 40. */
    private static void sayables() {
        CHECK.promise(45);
        OathTill x = six("was d in la hour 0;");
        CHECK.taken(x, "all 40", x.sayable(A, E), 40);
        CHECK.taken(x, "but four of a known hour", x.sayable(A, D), 36);
        CHECK.taken(x, "of itself, too", x.sayable(D, D), 36);
        x.swear(A, E, 0, 7);
        CHECK.taken(x, "an hour less", x.sayable(A, E), 35);
        x.swear(B, D, 0, 7);
        x.swear(F, D, 1, 7);
        CHECK.taken(x, "doubted: all", x.sayable(A, D), 40);
        x.meet(A, B);
        CHECK.taken(x, "a friend lies: the truth alone", x.sayable(A, D), 1);
        OathTill y = court("place la at 0;place lb at 0;person a purse 4;person b purse 4;was a in la hour 3;");
        CHECK.taken(y, "the poor: the truth alone", y.sayable(0, 0), 1);
        CHECK.taken(y, "nothing", y.sayable(0, 1), 0);
        y.earn(0, 1);
        CHECK.taken(y, "all", y.sayable(0, 1), 16);
        OathTill z = six("");
        for (int i = 0; i < 16; i++) {
            z.swear(A, i / 8, 0, i % 8);
        }
        CHECK.taken(z, "16 oaths: none", z.sayable(F, D), 0);
    }

    /** "DEAREST: that SAYABLE one with the greatest FEE". */
    private static void dearests() {
        CHECK.promise(46);
        OathTill x = court("place la at 0;place lb at 0;person a purse 8;person b purse 99;person c purse 0 bishop;"
            + "was c in la hour 7;base 3;more 5;");
        CHECK.taken(x, "the base", x.dearest(0, 1), 3);
        x.swear(2, 1, 0, 7);
        CHECK.taken(x, "just the purse", x.dearest(0, 1), 8);
        CHECK.taken(x, "a bishop's", x.dearest(2, 1), 0);
        x.swear(0, 0, 0, 0);
        CHECK.taken(x, "what the purse can bear", x.dearest(0, 1), 3);
        x.swear(0, 0, 0, 1);
        CHECK.refused(x, "nothing", x.dearest(0, 1), 6);
        CHECK.taken(x, "the truth for nothing", x.dearest(0, 2), 0);
        x.swear(0, 2, 0, 7);
        CHECK.refused(x, "not even that", x.dearest(0, 2), 6);
        for (int hour = 0; hour < 8; hour += 7) {
            for (int place = 0; place < 5; place += 4) {
                OathTill y = six("base 99;more 99;");
                for (int witness = 1; witness < 6; witness++) {
                    y.swear(witness, D, place, hour);
                }
                CHECK.taken(y, "the dearest there can be", y.dearest(A, D), 594);
            }
        }
    }

    /** "of several the first (6: nobody has such)"; "of several the first (6: nobody is)". */
    private static void liarsAndDoubted() {
        CHECK.promise(47);
        OathTill x = six("was d in la hour 0;speed 60;");
        x.swear(A, D, 0, 0);
        CHECK.refused(x, "a true one is none", x.liar(), 6);
        x.swear(F, D, 0, 1);
        CHECK.taken(x, "the last person", x.liar(), F);
        x.swear(E, D, 0, 1);
        CHECK.taken(x, "of two the first", x.liar(), E);
        x.swear(F, D, 0, 2);
        CHECK.taken(x, "the most", x.liar(), F);
        x.recant(3);
        CHECK.taken(x, "that stand", x.liar(), E);
        x.recant(2);
        x.find(D, 0, 1);
        CHECK.refused(x, "what is true now", x.liar(), 6);
        x.swear(A, B, 0, 7);
        CHECK.taken(x, "the first person", x.liar(), A);
        x.recant(x.told(2) - 1);
        CHECK.promise(48);
        CHECK.refused(x, "nobody is doubted", x.doubted(), 6);
        x.swear(A, F, 0, 1);
        x.swear(B, F, 1, 1);
        CHECK.taken(x, "the last person", x.doubted(), F);
        x.swear(A, E, 0, 1);
        x.swear(B, E, 1, 1);
        CHECK.taken(x, "of two the first", x.doubted(), E);
        x.swear(C, F, 0, 2);
        x.swear(A, F, 1, 2);
        CHECK.taken(x, "the most", x.doubted(), F);
    }

    /** "how much of all FEES that were paid is in the TILL now (6: none were paid)"; "0 is 0 by 1". */
    private static void keptParts() {
        CHECK.promise(49);
        OathTill x = six("base 6;");
        CHECK.refused(x, "none sworn", x.kept(), 6);
        x.swear(F, D, 0, 0);
        CHECK.refused(x, "none paid", x.kept(), 6);
        x.swear(A, D, 0, 1);
        CHECK.is("all", x.kept(), true);
        CHECK.is("1", x.top(), 1);
        CHECK.is("by 1", x.bottom(), 1);
        x.find(D, 0, 1);
        CHECK.is("nothing", x.kept(), true);
        CHECK.is("0", x.top(), 0);
        CHECK.is("by 1 again", x.bottom(), 1);
        x.swear(A, D, 0, 2);
        x.swear(A, D, 0, 3);
        x.swear(A, D, 0, 4);
        x.kept();
        CHECK.is("3", x.top(), 3);
        CHECK.is("by 4", x.bottom(), 4);
        x.recant(2);
        x.kept();
        CHECK.is("what was recanted is in the till", x.top(), 3);
        x.find(D, 1, 3);
        x.kept();
        CHECK.is("what is void, too", x.top(), 3);
        x.ride(61);
        CHECK.is("a refused call leaves it", x.bottom(), 4);
        x.court(0);
        CHECK.refused(x, "of a new court", x.kept(), 6);
        CHECK.is("it is told still", x.top(), 3);
        OathTill penny = six("base 1;");
        penny.swear(A, D, 0, 0);
        CHECK.is("of one penny", penny.kept(), true);
        CHECK.is("all of it", penny.top(), 1);
    }

    /** "that STAND and are TRUE (what 0), are not (1), are VOID (2)". */
    private static void words() {
        CHECK.promise(50);
        OathTill x = six("was d in la hour 0;");
        for (int what = 0; what < 3; what++) {
            CHECK.taken(x, "none " + what, x.word(A, what), 0);
        }
        x.swear(A, D, 0, 0);
        x.swear(A, D, 0, 1);
        x.swear(A, D, 0, 2);
        x.swear(A, D, 0, 3);
        x.swear(B, D, 0, 3);
        x.recant(3);
        x.find(D, 1, 2);
        CHECK.taken(x, "true", x.word(A, 0), 1);
        CHECK.taken(x, "not true", x.word(A, 1), 1);
        CHECK.taken(x, "void", x.word(A, 2), 1);
        CHECK.taken(x, "of another", x.word(B, 1), 1);
        x.find(D, 1, 0);
        CHECK.taken(x, "a true one is void", x.word(A, 2), 2);
        CHECK.taken(x, "none true", x.word(A, 0), 0);
        CHECK.refused(x, "what 3", x.word(A, 3), 1);
        CHECK.refused(x, "what -1", x.word(A, -1), 1);
        CHECK.refused(x, "a seventh", x.word(6, 0), 1);
    }

    /** "The set of WITNESSES who have an OATH, not TRUE, of a PERSON, that STANDS". */
    private static void liarSets() {
        CHECK.promise(51);
        OathTill x = six("was d in la hour 0;");
        CHECK.taken(x, "none", x.liars(D), 0);
        OathTill one = six("");
        one.swear(E, A, 0, 0);
        CHECK.taken(one, "by the first oath", one.liars(A), 16);
        x.swear(A, D, 0, 0);
        CHECK.taken(x, "a true one", x.liars(D), 0);
        for (int witness = 0; witness < 6; witness++) {
            x.swear(witness, D, 0, 7);
            CHECK.taken(x, "up to " + witness, x.liars(D), (2 << witness) - 1);
        }
        x.swear(A, D, 0, 6);
        CHECK.taken(x, "twice is once", x.liars(D), 63);
        x.recant(6);
        CHECK.taken(x, "that stand", x.liars(D), 31);
        CHECK.taken(x, "of another", x.liars(A), 0);
        x.find(D, 0, 7);
        CHECK.taken(x, "one is left who lies", x.liars(D), 1);
        x.find(D, 1, 6);
        CHECK.taken(x, "none", x.liars(D), 0);
        CHECK.refused(x, "a seventh", x.liars(6), 1);
    }
}
