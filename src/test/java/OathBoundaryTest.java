/** The boundary cases of ==== 2: WHY an OATH can't be, its FEE, what becomes VOID, FIND, RECANT (promises 19 to 31). */
public final class OathBoundaryTest {
    private static final Check CHECK = new Check();
    private static final int A = 0;
    private static final int B = 1;
    private static final int C = 2;
    private static final int D = 3;
    private static final int E = 4;
    private static final int F = 5;

    public static void main(String[] args) {
        sixteenOaths();
        oneOfAnHour();
        neverDoubted();
        friendsWhoLie();
        thePurse();
        whichIsFirst();
        feeLimits();
        halves();
        gainsayers();
        backers();
        howFarOneCanGo();
        whatDoesNotFit();
        childrenGainsay();
        childAndMisfit();
        swornNumbers();
        findRefunds();
        findVoids();
        findAboveThePurse();
        recants();
        earning();
        meeting();
        riding();
        oathsTold();
        personsTold();
        CHECK.end();
    }

    private static OathTill six(String more) {
        return Check.six(more);
    }

    /** Six of which c is a CHILD. */
    private static OathTill withChild(String more) {
        OathTill x = new OathTill();
        CHECK.is("the court with a child and " + more, Check.court(x,
            "place la at 0;place lb at 10;place lc at 20;person a purse 999;person b purse 999;person c purse 999 child;"
            + "person d purse 999;person e purse 999;person f purse 0 bishop;" + more), 6);
        return x;
    }

    /** "1 there are 16 OATHS": the 16th is sworn, the 17th not, whether they STAND or not. */
    private static void sixteenOaths() {
        CHECK.promise(20);
        OathTill x = six("");
        for (int i = 0; i < 15; i++) {
            CHECK.taken(x, "oath " + i, x.swear(A, i / 8, 0, i % 8), i);
            if (i % 3 == 0) {
                x.recant(i);
            }
        }
        CHECK.taken(x, "15 oaths", x.told(2), 15);
        CHECK.taken(x, "a 16th can be", x.why(B, C, 0, 0), 0);
        CHECK.taken(x, "the 16th", x.swear(B, C, 0, 0), 15);
        CHECK.taken(x, "16 oaths", x.told(2), 16);
        CHECK.taken(x, "1", x.why(B, D, 0, 0), 1);
        CHECK.taken(x, "of a bishop, too", x.why(F, D, 0, 0), 1);
        CHECK.taken(x, "ahead of 2", x.why(B, C, 0, 0), 1);
        x.find(D, 0, 0);
        CHECK.taken(x, "of a true one, too", x.why(B, D, 0, 0), 1);
        CHECK.taken(x, "its fee is told", x.fee(B, D, 1, 0), 5);
        CHECK.promise(25);
        CHECK.refused(x, "a 17th", x.swear(B, D, 0, 0), 7);
        CHECK.promise(24);
        CHECK.refused(x, "by a 17th none", x.voids(B, D, 0, 0), 7);
        CHECK.promise(25);
        x.recant(15);
        CHECK.refused(x, "what was recanted counts", x.swear(B, D, 0, 0), 7);
        CHECK.taken(x, "none more", x.told(2), 16);
    }

    /** "2 that WITNESS has one of that PERSON and HOUR that STANDS." */
    private static void oneOfAnHour() {
        CHECK.promise(20);
        OathTill x = six("");
        x.swear(A, B, 0, 3);
        CHECK.taken(x, "the same", x.why(A, B, 0, 3), 2);
        CHECK.taken(x, "another place", x.why(A, B, 1, 3), 2);
        CHECK.taken(x, "the hour ahead", x.why(A, B, 0, 2), 0);
        CHECK.taken(x, "the hour behind", x.why(A, B, 0, 4), 0);
        CHECK.taken(x, "another person", x.why(A, A, 0, 3), 0);
        CHECK.taken(x, "another witness", x.why(B, B, 0, 3), 0);
        x.find(B, 0, 3);
        CHECK.taken(x, "it is true", x.why(A, B, 0, 3), 2);
        x.recant(0);
        CHECK.taken(x, "recanted", x.why(A, B, 0, 3), 0);
        x.swear(A, B, 0, 3);
        x.find(B, 1, 3);
        CHECK.taken(x, "void", x.why(A, B, 1, 3), 0);
    }

    /** "3 it is not TRUE, it is KNOWN where that PERSON was in that HOUR, and the DOUBT of the PERSON is 0". */
    private static void neverDoubted() {
        CHECK.promise(20);
        OathTill x = six("was b in la hour 3;was c in la hour 3;");
        CHECK.taken(x, "true", x.why(A, B, 0, 3), 0);
        CHECK.taken(x, "not true", x.why(A, B, 1, 3), 3);
        CHECK.taken(x, "it is not known", x.why(A, B, 1, 2), 0);
        CHECK.taken(x, "not known of this one", x.why(A, D, 1, 3), 0);
        CHECK.taken(x, "of a bishop, too", x.why(F, B, 1, 3), 3);
        CHECK.taken(x, "of itself, too", x.why(B, B, 1, 3), 3);
        x.swear(A, B, 0, 6);
        x.swear(D, B, 0, 6);
        CHECK.taken(x, "two who agree are no doubt", x.why(E, B, 1, 3), 3);
        x.swear(F, B, 1, 6);
        CHECK.taken(x, "a doubt of one hour", x.doubt(B), 1);
        CHECK.taken(x, "it can be now", x.why(E, B, 1, 3), 0);
        CHECK.taken(x, "not of another person", x.why(E, C, 1, 3), 3);
        x.recant(2);
        CHECK.taken(x, "no doubt any more", x.why(E, B, 1, 3), 3);
        CHECK.taken(x, "but what is not known", x.why(E, B, 1, 7), 0);
        for (int hour = 0; hour < 8; hour++) {
            for (int place = 0; place < 5; place++) {
                doubtBy(place, hour);
            }
        }
    }

    /** Two who agree make no doubt, a third who does not makes one, whatever the PLACE and HOUR. */
    private static void doubtBy(int place, int hour) {
        String where = " in place " + place + " in hour " + hour;
        int other = (hour + 1) % 8;
        OathTill x = six("speed 60;");
        x.find(B, 0, other);
        x.swear(A, B, place, hour);
        CHECK.taken(x, "one" + where, x.why(E, B, 1, other), 3);
        x.swear(C, B, place, hour);
        CHECK.taken(x, "two who agree" + where, x.why(E, B, 1, other), 3);
        x.swear(F, B, (place + 1) % 5, hour);
        CHECK.taken(x, "a third" + where, x.why(E, B, 1, other), 0);
        x.recant(2);
        x.swear(D, B, (place + 1) % 5, (hour + 2) % 8);
        x.swear(D, B, (place + 2) % 5, (hour + 5) % 8);
        CHECK.taken(x, "others of other hours beside" + where, x.why(E, B, 1, other), 3);
        x.swear(F, B, (place + 4) % 5, hour);
        CHECK.taken(x, "another third" + where, x.why(E, B, 1, other), 0);
    }

    /** "4 it is not TRUE, and the WITNESS KNOWS another one who has an OATH, not TRUE, of that PERSON, that STANDS." */
    private static void friendsWhoLie() {
        CHECK.promise(20);
        OathTill x = six("knows a b;knows b c;was d in la hour 0;");
        x.swear(A, D, 0, 0);
        CHECK.taken(x, "a friend's true one", x.why(B, D, 0, 4), 0);
        x.swear(A, D, 0, 4);
        CHECK.taken(x, "a friend's lie", x.why(B, D, 0, 4), 4);
        CHECK.taken(x, "of another hour", x.why(B, D, 0, 7), 4);
        CHECK.taken(x, "not of another person", x.why(B, E, 0, 4), 0);
        CHECK.taken(x, "not what is true", x.why(B, D, 0, 0), 0);
        CHECK.taken(x, "a friend's friend", x.why(C, D, 0, 4), 0);
        CHECK.taken(x, "its own", x.why(A, D, 0, 7), 0);
        CHECK.taken(x, "a stranger", x.why(E, D, 0, 4), 0);
        x.find(D, 0, 4);
        CHECK.taken(x, "it is true now", x.why(B, D, 0, 7), 0);
        x.swear(A, D, 0, 5);
        CHECK.taken(x, "a lie again", x.why(B, D, 0, 7), 4);
        x.recant(2);
        CHECK.taken(x, "recanted", x.why(B, D, 0, 7), 0);
        x.swear(A, D, 0, 5);
        x.find(D, 1, 5);
        CHECK.taken(x, "void", x.why(B, D, 0, 7), 0);
        x.swear(C, D, 0, 6);
        CHECK.taken(x, "from the other side", x.why(B, D, 0, 7), 4);
        CHECK.taken(x, "of a bishop none is known", x.why(F, D, 0, 7), 0);
        x.meet(F, C);
        CHECK.taken(x, "till they meet", x.why(F, D, 0, 7), 4);
    }

    /** "5 its FEE is above the PURSE". */
    private static void thePurse() {
        CHECK.promise(20);
        OathTill x = new OathTill();
        Check.court(x, "place la at 0;place lb at 0;person a purse 7;person b purse 6;person c purse 0;"
            + "person d purse 0 bishop;was c in la hour 0;base 7;more 1;");
        CHECK.taken(x, "as much as there is", x.why(A, C, 0, 1), 0);
        CHECK.taken(x, "one too few", x.why(B, C, 0, 1), 5);
        CHECK.taken(x, "none", x.why(C, C, 0, 1), 5);
        CHECK.taken(x, "what is true is free", x.why(C, C, 0, 0), 0);
        CHECK.taken(x, "a bishop's is free", x.why(D, C, 0, 1), 0);
        CHECK.promise(25);
        CHECK.refused(x, "one too few", x.swear(B, C, 0, 1), 7);
        CHECK.taken(x, "to the last", x.swear(A, C, 0, 1), 0);
        CHECK.taken(x, "the purse is empty", x.person(A, 0), 0);
        CHECK.taken(x, "all is in the till", x.told(11), 7);
        CHECK.promise(20);
        CHECK.taken(x, "no more", x.why(A, C, 0, 2), 5);
        x.earn(B, 1);
        CHECK.taken(x, "one more is enough", x.why(B, C, 0, 1), 0);
        CHECK.taken(x, "gainsaid it is dearer", x.why(B, C, 1, 1), 5);
        x.earn(B, 1);
        CHECK.taken(x, "enough again", x.why(B, C, 1, 1), 0);
    }

    /** "the first of these that holds". */
    private static void whichIsFirst() {
        CHECK.promise(20);
        OathTill x = new OathTill();
        Check.court(x, "place la at 0;place lb at 0;person a purse 0 bishop;person b purse 0;person c purse 0;"
            + "knows a b;was c in la hour 0;");
        CHECK.taken(x, "3 ahead of 5", x.why(B, C, 1, 0), 3);
        x.swear(A, C, 0, 1);
        CHECK.taken(x, "3 ahead of 4", x.why(B, C, 1, 0), 3);
        CHECK.taken(x, "4 ahead of 5", x.why(B, C, 1, 1), 4);
        x.swear(B, C, 0, 0);
        CHECK.taken(x, "2 ahead of 3", x.why(B, C, 1, 0), 2);
        CHECK.taken(x, "2 of what is true", x.why(B, C, 0, 0), 2);
        for (int hour = 0; hour < 7; hour++) {
            x.swear(A, A, 0, hour);
            x.swear(A, B, 0, hour);
        }
        CHECK.taken(x, "16", x.told(2), 16);
        CHECK.taken(x, "1 ahead of all", x.why(B, C, 1, 0), 1);
    }

    /** "BASE and MORE times by how many it is GAINSAID": from none to five, from 0 to 99. */
    private static void feeLimits() {
        CHECK.promise(21);
        OathTill x = six("base 99;more 99;");
        for (int others = 0; others <= 5; others++) {
            CHECK.taken(x, "gainsaid by " + others, x.fee(A, D, 1, 0), 99 + 99 * others);
            if (others < 5) {
                x.swear(1 + others, D, 0, 0);
            }
        }
        CHECK.promise(25);
        CHECK.taken(x, "the dearest that can be", x.swear(A, D, 1, 0), 5);
        CHECK.taken(x, "was paid", x.oath(5, 4), 594);
        CHECK.taken(x, "from the purse", x.person(A, 0), 999 - 594);
        CHECK.taken(x, "to the till", x.told(11), 4 * 99 + 594);
        CHECK.promise(21);
        OathTill y = six("base 0;more 0;");
        CHECK.taken(y, "for nothing", y.fee(A, D, 1, 0), 0);
        y.swear(A, D, 1, 0);
        CHECK.taken(y, "gainsaid for nothing", y.fee(B, D, 0, 0), 0);
        CHECK.taken(y, "a lie for nothing", y.oath(0, 4), 0);
        OathTill z = six("base 0;more 99;");
        z.swear(A, D, 1, 0);
        CHECK.taken(z, "more alone", z.fee(B, D, 0, 0), 99);
        CHECK.taken(z, "none gainsays", z.fee(B, D, 1, 0), 0);
        OathTill t = six("was d in la hour 0;base 99;");
        CHECK.taken(t, "a true one", t.fee(A, D, 0, 0), 0);
        CHECK.taken(t, "not true", t.fee(A, D, 1, 0), 99);
        CHECK.taken(t, "a bishop's", t.fee(F, D, 1, 0), 0);
    }

    private static void half(int base, int due) {
        OathTill x = six("twins a b;base " + base + ";");
        x.swear(A, D, 0, 0);
        CHECK.taken(x, "half of " + base, x.fee(B, D, 0, 0), due);
    }

    /** "half of it, rounded up, if its TWIN has the same one (PERSON, PLACE, HOUR) that STANDS". */
    private static void halves() {
        CHECK.promise(21);
        half(0, 0);
        half(1, 1);
        half(2, 1);
        half(3, 2);
        half(98, 49);
        half(99, 50);
        OathTill x = six("twins a f;twins b c;base 10;more 5;");
        x.swear(F, D, 0, 0);
        CHECK.taken(x, "a bishop's twin", x.fee(A, D, 0, 0), 5);
        CHECK.taken(x, "no twin of it", x.fee(B, D, 0, 0), 10);
        CHECK.taken(x, "another place", x.fee(A, D, 1, 0), 15);
        CHECK.taken(x, "another hour", x.fee(A, D, 0, 1), 10);
        CHECK.taken(x, "another person", x.fee(A, E, 0, 0), 10);
        x.swear(E, D, 1, 0);
        CHECK.taken(x, "the whole of 15", x.fee(B, D, 0, 0), 15);
        CHECK.taken(x, "half of 15", x.fee(A, D, 0, 0), 8);
        CHECK.promise(25);
        CHECK.taken(x, "for the half", x.swear(A, D, 0, 0), 2);
        CHECK.taken(x, "paid", x.oath(2, 4), 8);
        CHECK.promise(21);
        x.recant(0);
        CHECK.taken(x, "its own does not halve", x.fee(A, D, 0, 0), 15);
        CHECK.taken(x, "a bishop's is free", x.fee(F, D, 0, 0), 0);
        OathTill y = six("twins a b;base 10;");
        y.swear(A, D, 0, 0);
        y.recant(0);
        CHECK.taken(y, "the twin's was recanted", y.fee(B, D, 0, 0), 10);
        CHECK.promise(20);
        OathTill z = new OathTill();
        Check.court(z, "place la at 0;person a purse 9;person b purse 5;twins a b;base 9;");
        CHECK.taken(z, "the whole is too dear", z.why(B, A, 0, 0), 5);
        z.swear(A, A, 0, 0);
        CHECK.taken(z, "the half is not", z.why(B, A, 0, 0), 0);
    }

    /** "how many other WITNESSES have an OATH that STANDS, of that PERSON and HOUR, in another PLACE". */
    private static void gainsayers() {
        CHECK.promise(22);
        OathTill x = six("");
        CHECK.taken(x, "by none", x.gainsaid(A, D, 0, 0), 0);
        x.swear(A, D, 0, 0);
        CHECK.taken(x, "not by itself", x.gainsaid(A, D, 1, 0), 0);
        CHECK.taken(x, "not by the same", x.gainsaid(B, D, 0, 0), 0);
        CHECK.taken(x, "by one", x.gainsaid(B, D, 1, 0), 1);
        CHECK.taken(x, "not of another hour", x.gainsaid(B, D, 1, 1), 0);
        CHECK.taken(x, "not of another person", x.gainsaid(B, E, 1, 0), 0);
        x.swear(B, D, 1, 0);
        x.swear(C, D, 2, 0);
        x.swear(D, D, 3, 0);
        x.swear(F, D, 4, 0);
        CHECK.taken(x, "by five", x.gainsaid(E, D, 0, 0), 4);
        x.recant(4);
        CHECK.taken(x, "by what stands", x.gainsaid(E, D, 0, 0), 3);
        x.find(D, 1, 0);
        CHECK.taken(x, "the others are void", x.gainsaid(E, D, 0, 0), 1);
        CHECK.taken(x, "of places at one mile, too", x.gainsaid(E, D, 3, 0), 1);
    }

    /** "How many OATHS that STAND say just that". */
    private static void backers() {
        CHECK.promise(23);
        OathTill x = six("");
        CHECK.taken(x, "none", x.backed(D, 0, 0), 0);
        for (int witness = 0; witness < 6; witness++) {
            x.swear(witness, D, 0, 0);
            CHECK.taken(x, "by " + witness, x.backed(D, 0, 0), witness + 1);
        }
        CHECK.taken(x, "another place", x.backed(D, 1, 0), 0);
        CHECK.taken(x, "another hour", x.backed(D, 0, 1), 0);
        CHECK.taken(x, "another person", x.backed(E, 0, 0), 0);
        x.recant(5);
        CHECK.taken(x, "what stands", x.backed(D, 0, 0), 5);
        x.find(D, 0, 0);
        CHECK.taken(x, "true ones, too", x.backed(D, 0, 0), 5);
        x.find(D, 1, 0);
        CHECK.taken(x, "void ones not", x.backed(D, 0, 0), 0);
    }

    private static void fit(int speed, int place, int hour, int otherPlace, int otherHour, int due) {
        OathTill x = six("");
        x.ride(60);
        x.swear(A, D, place, hour);
        x.swear(F, D, otherPlace, otherHour);
        x.ride(speed);
        String what = "by speed " + speed + " from " + place + " in hour " + hour + " to " + otherPlace + " in hour " + otherHour;
        CHECK.taken(x, what, x.fits(0, 1), due);
        CHECK.taken(x, what + ", from the other side", x.fits(1, 0), due);
    }

    /** "FIT if one can have gone from PLACE to PLACE in the HOURS between by SPEED (in one HOUR: if it is the same PLACE)". */
    private static void howFarOneCanGo() {
        CHECK.promise(31);
        fit(10, 0, 0, 1, 1, 1);
        fit(9, 0, 0, 1, 1, 0);
        fit(10, 0, 0, 2, 2, 1);
        fit(9, 0, 0, 2, 2, 0);
        fit(10, 0, 0, 2, 1, 0);
        fit(10, 2, 5, 0, 7, 1);
        fit(9, 2, 5, 0, 7, 0);
        fit(60, 0, 3, 4, 4, 1);
        fit(59, 0, 3, 4, 4, 0);
        fit(9, 0, 0, 4, 7, 1);
        fit(8, 0, 0, 4, 7, 0);
        fit(0, 0, 0, 1, 7, 0);
        fit(0, 1, 0, 1, 7, 1);
        fit(0, 2, 3, 3, 4, 1);
        fit(60, 2, 3, 3, 3, 0);
        fit(0, 2, 3, 2, 3, 1);
        fit(60, 0, 3, 1, 3, 0);
        OathTill x = six("");
        x.swear(A, D, 0, 0);
        x.swear(A, E, 4, 0);
        CHECK.taken(x, "of unlike persons", x.fits(0, 1), 1);
        CHECK.taken(x, "one and itself", x.fits(1, 1), 1);
        x.swear(F, D, 4, 1);
        CHECK.taken(x, "void ones are asked, too", x.fits(0, 2), 0);
        CHECK.taken(x, "and were void", x.told(5), 2);
        CHECK.refused(x, "a third is the last", x.fits(0, 3), 1);
    }

    /** "if it is not TRUE, and another OATH, not TRUE, of that PERSON and of another HOUR STANDS that does not FIT it". */
    private static void whatDoesNotFit() {
        CHECK.promise(25);
        OathTill x = six("was d in le hour 7;");
        x.swear(A, D, 0, 0);
        CHECK.taken(x, "it just fits", x.voids(B, D, 1, 1), 0);
        CHECK.taken(x, "it does not", x.voids(B, D, 2, 1), 2);
        CHECK.taken(x, "in one hour it is no matter", x.voids(B, D, 2, 0), 0);
        CHECK.taken(x, "of another person it is none", x.voids(B, E, 2, 1), 0);
        CHECK.taken(x, "what is true voids none", x.voids(B, D, 4, 7), 0);
        x.swear(B, D, 4, 7);
        CHECK.taken(x, "what is true is not void by it", x.voids(C, D, 0, 6), 0);
        CHECK.taken(x, "the first lie is", x.voids(C, D, 4, 5), 2);
        x.swear(C, D, 0, 4);
        CHECK.taken(x, "all such", x.voids(E, D, 4, 5), 3);
        CHECK.taken(x, "and no other", x.voids(E, D, 4, 3), 3);
        CHECK.taken(x, "one of two", x.voids(E, D, 2, 5), 2);
        CHECK.taken(x, "till", x.told(11), 10);
        CHECK.taken(x, "it is sworn and void at once", x.swear(E, D, 2, 5), 3);
        CHECK.taken(x, "void", x.oath(3, 5), 1);
        CHECK.taken(x, "the other, too", x.oath(2, 5), 1);
        CHECK.taken(x, "the first stands", x.oath(0, 5), 0);
        CHECK.taken(x, "the true one stands", x.oath(1, 5), 0);
        CHECK.taken(x, "its fee is lost", x.told(11), 15);
        CHECK.taken(x, "what is void voids none", x.voids(E, D, 2, 5), 0);
        x.recant(0);
        CHECK.taken(x, "what was recanted neither", x.voids(E, D, 4, 1), 0);
        OathTill y = six("speed 0;");
        y.swear(A, D, 2, 0);
        CHECK.taken(y, "places at one mile fit by speed 0", y.voids(B, D, 3, 1), 0);
        CHECK.taken(y, "no others do", y.voids(B, D, 1, 7), 2);
        OathTill z = six("");
        for (int hour = 0; hour < 7; hour++) {
            z.swear(A, D, 0, hour);
        }
        CHECK.promise(24);
        CHECK.taken(z, "six hours are enough for 60 miles", z.voids(F, D, 4, 0), 5 + 1);
        CHECK.taken(z, "its own, too", z.voids(A, D, 4, 7), 5 + 1);
        z.ride(0);
        CHECK.taken(z, "seven and itself", z.voids(F, D, 4, 7), 8);
        for (int person = 0; person < 6; person++) {
            for (int place = 1; place < 5; place++) {
                OathTill t = six("speed 0;");
                t.find(person, place, 2);
                t.swear(A, person, 0, 0);
                CHECK.taken(t, "what is true voids none that it does not fit", t.voids(B, person, place, 2), 0);
                CHECK.taken(t, "what is not true does", t.voids(B, person, place, 3), 2);
                t.swear(B, person, place, 2);
                CHECK.taken(t, "both stand", t.told(3), 2);
            }
        }
    }

    /** "a CHILD's OATH: all that GAINSAY it .. are VOID". */
    private static void childrenGainsay() {
        CHECK.promise(25);
        OathTill x = withChild("was d in la hour 5;speed 60;");
        x.swear(A, D, 0, 1);
        x.swear(B, D, 1, 1);
        x.swear(E, D, 1, 2);
        x.swear(F, E, 1, 1);
        CHECK.taken(x, "of others, of that hour, in another place", x.voids(C, D, 0, 1), 1);
        CHECK.taken(x, "all of them", x.voids(C, D, 2, 1), 2);
        CHECK.taken(x, "of a grown one none", x.voids(F, D, 2, 1), 0);
        CHECK.taken(x, "it is dear", x.fee(C, D, 2, 1), 5 + 2 * 2);
        CHECK.taken(x, "sworn", x.swear(C, D, 2, 1), 4);
        int[] due = {1, 1, 0, 0, 0};
        for (int oath = 0; oath < 5; oath++) {
            CHECK.taken(x, "oath " + oath, x.oath(oath, 5), due[oath]);
        }
        CHECK.taken(x, "their fees are lost", x.told(11), 5 + 7 + 5 + 9);
        x.swear(A, D, 0, 1);
        CHECK.taken(x, "who gainsays a child is not void by that", x.oath(5, 5), 0);
        CHECK.taken(x, "there is doubt", x.doubt(D), 1);
        x.swear(B, D, 0, 5);
        CHECK.taken(x, "a child can make a true one void", x.voids(C, D, 1, 5), 1);
        CHECK.taken(x, "it does", x.swear(C, D, 1, 5), 7);
        CHECK.taken(x, "void", x.oath(6, 5), 1);
        CHECK.taken(x, "but it is true", x.oath(6, 7), 1);
        OathTill y = withChild("was d in la hour 5;speed 60;");
        y.swear(A, D, 0, 1);
        y.swear(B, D, 1, 1);
        y.swear(E, D, 1, 5);
        y.find(D, 2, 1);
        CHECK.taken(y, "the doubt is gone", y.doubt(D), 0);
        OathTill z = withChild("was d in la hour 5;speed 60;");
        z.swear(A, D, 0, 1);
        z.swear(B, D, 1, 1);
        z.swear(E, D, 1, 5);
        CHECK.taken(z, "a lie of a known hour", z.told(2), 3);
        CHECK.taken(z, "a child's true one voids it", z.voids(C, D, 0, 5), 1);
        z.swear(C, D, 0, 5);
        CHECK.taken(z, "void", z.oath(2, 5), 1);
        CHECK.taken(z, "for nothing", z.oath(3, 4), 0);
    }

    /** A CHILD's OATH that does not FIT is VOID, and those that GAINSAID it are so as well. */
    private static void childAndMisfit() {
        CHECK.promise(24);
        OathTill x = withChild("");
        x.swear(A, D, 0, 1);
        x.swear(B, D, 0, 2);
        x.swear(E, D, 1, 3);
        CHECK.taken(x, "gainsaid once, one does not fit, and itself", x.voids(C, D, 2, 2), 3);
        CHECK.promise(25);
        CHECK.taken(x, "sworn", x.swear(C, D, 2, 2), 3);
        int[] due = {1, 1, 0, 1};
        for (int oath = 0; oath < 4; oath++) {
            CHECK.taken(x, "oath " + oath, x.oath(oath, 5), due[oath]);
        }
        CHECK.taken(x, "it can be sworn again", x.why(C, D, 2, 2), 0);
    }

    /** "the number of the OATH (VOID at once or not)": 0 to 15. */
    private static void swornNumbers() {
        CHECK.promise(25);
        OathTill x = six("speed 0;");
        for (int i = 0; i < 16; i++) {
            CHECK.taken(x, "number", x.swear(i % 2 == 0 ? A : F, D, i % 2, i / 2), i);
        }
        CHECK.taken(x, "those of two hours void each other", x.told(5), 16);
        CHECK.taken(x, "all are told", x.told(2), 16);
    }

    /** "OATHS that STAND and say so, not TRUE till then, are TRUE and REFUNDED". */
    private static void findRefunds() {
        CHECK.promise(26);
        OathTill x = six("");
        CHECK.taken(x, "none were sworn", x.find(D, 0, 0), 0);
        CHECK.taken(x, "it is known", x.known(D, 0), 0);
        CHECK.taken(x, "again", x.find(D, 0, 0), 0);
        for (int witness = 0; witness < 6; witness++) {
            x.swear(witness, D, 1, 7);
        }
        x.recant(1);
        CHECK.taken(x, "till", x.told(11), 25);
        CHECK.taken(x, "all that stand", x.find(D, 1, 7), 5);
        CHECK.taken(x, "not what was recanted", x.oath(1, 6), 0);
        CHECK.taken(x, "though it is true", x.oath(1, 7), 1);
        CHECK.taken(x, "of a bishop, too", x.oath(5, 6), 1);
        CHECK.taken(x, "till then", x.told(11), 5);
        CHECK.taken(x, "purse", x.person(A, 0), 999);
        CHECK.taken(x, "the purse of who recanted", x.person(B, 0), 994);
        CHECK.taken(x, "refunded", x.told(6), 5);
        CHECK.taken(x, "they stand", x.told(3), 5);
        CHECK.taken(x, "none lies", x.told(4), 0);
        CHECK.taken(x, "again: none", x.find(D, 1, 7), 0);
        CHECK.taken(x, "till stays", x.told(11), 5);
        x.swear(B, D, 1, 7);
        CHECK.taken(x, "what was true when sworn", x.find(D, 1, 7), 0);
        CHECK.taken(x, "is not refunded", x.oath(6, 6), 0);
        CHECK.taken(x, "another hour", x.find(D, 1, 6), 0);
    }

    /** "those that STAND and say another PLACE of that HOUR are VOID"; "in place of what was". */
    private static void findVoids() {
        CHECK.promise(26);
        OathTill x = six("");
        x.swear(A, D, 0, 3);
        x.swear(B, D, 1, 3);
        x.swear(C, D, 1, 4);
        x.swear(E, E, 1, 3);
        x.swear(F, D, 1, 3);
        x.recant(4);
        CHECK.taken(x, "found where none says", x.find(D, 2, 3), 0);
        int[] due = {1, 1, 0, 0, 2};
        for (int oath = 0; oath < 5; oath++) {
            CHECK.taken(x, "oath " + oath, x.oath(oath, 5), due[oath]);
        }
        CHECK.taken(x, "nothing goes back", x.told(11), 5 + 7 + 5 + 5);
        CHECK.taken(x, "found elsewhere", x.find(D, 0, 3), 0);
        CHECK.taken(x, "what is void stays so", x.oath(0, 5), 1);
        CHECK.taken(x, "and is not refunded", x.oath(0, 6), 0);
        CHECK.taken(x, "though it is true", x.oath(0, 7), 1);
        CHECK.taken(x, "of the hour behind", x.find(D, 1, 4), 1);
        CHECK.taken(x, "found elsewhere again", x.find(D, 0, 4), 0);
        CHECK.taken(x, "what was refunded is void now", x.oath(2, 5), 1);
        CHECK.taken(x, "it was refunded", x.oath(2, 6), 1);
        CHECK.taken(x, "refunded counts what is void", x.told(6), 1);
        CHECK.taken(x, "and back", x.find(D, 1, 4), 0);
        CHECK.taken(x, "not refunded twice", x.told(11), 5 + 7 + 5);
        OathTill y = six("was d in la hour 0;");
        y.swear(A, D, 0, 5);
        y.swear(B, D, 1, 5);
        y.swear(C, D, 1, 0);
        y.swear(E, D, 0, 0);
        CHECK.taken(y, "what is known is found again", y.find(D, 0, 0), 0);
        CHECK.taken(y, "the lie is void", y.oath(2, 5), 1);
        CHECK.taken(y, "the truth stands", y.oath(3, 5), 0);
        CHECK.taken(y, "what is known becomes another", y.find(D, 1, 0), 0);
        CHECK.taken(y, "the truth is void", y.oath(3, 5), 1);
    }

    /** The PURSE gets the FEE back whatever is in it. */
    private static void findAboveThePurse() {
        CHECK.promise(26);
        OathTill x = six("");
        x.swear(A, D, 0, 0);
        for (int i = 0; i < 9; i++) {
            x.earn(A, 999);
        }
        CHECK.taken(x, "up to 9,999", x.earn(A, 14), 9999);
        CHECK.taken(x, "refunded", x.find(D, 0, 0), 1);
        CHECK.taken(x, "the fee is in the purse", x.person(A, 0), 10004);
        CHECK.promise(28);
        CHECK.refused(x, "above 9,999", x.earn(A, 1), 7);
    }

    /** "RECANT: an OATH that STANDS does not any more, it is gone for good; its FEE is lost." */
    private static void recants() {
        CHECK.promise(27);
        OathTill x = six("");
        CHECK.refused(x, "none yet", x.recant(0), 1);
        for (int i = 0; i < 16; i++) {
            x.swear(i / 8, D, 0, i % 8);
        }
        CHECK.taken(x, "the last", x.recant(15), 15);
        CHECK.taken(x, "the first", x.recant(0), 14);
        CHECK.refused(x, "the first again", x.recant(0), 7);
        CHECK.refused(x, "a 17th", x.recant(16), 1);
        CHECK.taken(x, "recanted", x.told(7), 2);
        CHECK.taken(x, "the fees are lost", x.told(11), 80);
        CHECK.taken(x, "of the purse, too", x.person(A, 5), 40);
        CHECK.taken(x, "not void", x.told(5), 0);
        for (int i = 1; i < 15; i++) {
            CHECK.taken(x, "down to none", x.recant(i), 14 - i);
        }
        OathTill y = six("");
        y.swear(A, D, 0, 0);
        y.recant(0);
        CHECK.taken(y, "found", y.find(D, 0, 0), 0);
        CHECK.taken(y, "gone for good", y.oath(0, 5), 2);
        CHECK.taken(y, "found elsewhere", y.find(D, 1, 0), 0);
        CHECK.taken(y, "it does not become void", y.oath(0, 5), 2);
        y.swear(B, D, 1, 0);
        CHECK.taken(y, "a true one", y.recant(1), 0);
        y.swear(B, D, 2, 0);
        CHECK.taken(y, "sworn anew under a new number", y.swear(B, D, 1, 0), 2);
    }

    /** "so many pence (1 to 999) into the PURSE: how many are there (1; 7: above 9,999)". */
    private static void earning() {
        CHECK.promise(28);
        OathTill x = six("");
        CHECK.taken(x, "1", x.earn(A, 1), 1000);
        CHECK.taken(x, "999", x.earn(A, 999), 1999);
        CHECK.refused(x, "0", x.earn(A, 0), 1);
        CHECK.refused(x, "1,000", x.earn(A, 1000), 1);
        for (int i = 0; i < 8; i++) {
            CHECK.taken(x, "999 more", x.earn(A, 999), 2998 + 999 * i);
        }
        CHECK.taken(x, "nearly", x.person(A, 0), 9991);
        CHECK.refused(x, "one above", x.earn(A, 9), 7);
        CHECK.taken(x, "it stays", x.person(A, 0), 9991);
        CHECK.taken(x, "just 9,999", x.earn(A, 8), 9999);
        CHECK.refused(x, "1 above", x.earn(A, 1), 7);
        CHECK.taken(x, "a bishop may earn", x.earn(F, 999), 999);
        CHECK.taken(x, "the last person", x.person(F, 0), 999);
        CHECK.refused(x, "nobody", x.earn(6, 1), 1);
        CHECK.taken(x, "the till is untouched", x.told(11), 0);
        CHECK.taken(x, "nothing is spent", x.person(A, 5), 0);
    }

    /** "Two PERSONS KNOW each other from now on (1: one and itself, too; 7: they do)". */
    private static void meeting() {
        CHECK.promise(29);
        OathTill x = six("knows a b;");
        CHECK.refused(x, "they do", x.meet(A, B), 7);
        CHECK.refused(x, "they do from there", x.meet(B, A), 7);
        CHECK.is("the first and the last", x.meet(A, F), true);
        CHECK.taken(x, "from there", x.knows(F, A), 1);
        CHECK.refused(x, "they do now", x.meet(F, A), 7);
        CHECK.taken(x, "by others they do not", x.knows(B, F), 0);
        CHECK.is("so they may meet", x.meet(B, F), true);
        CHECK.refused(x, "itself", x.meet(F, F), 1);
        CHECK.refused(x, "a seventh", x.meet(A, 6), 1);
        CHECK.refused(x, "below", x.meet(-1, A), 1);
        CHECK.taken(x, "kin", x.kin(F), 1 + 2 + 32);
    }

    /** "SPEED from now on (0 to 60)": what STANDS is not asked again. */
    private static void riding() {
        CHECK.promise(30);
        OathTill x = six("speed 60;");
        x.swear(A, D, 0, 0);
        x.swear(B, D, 4, 1);
        CHECK.is("0", x.ride(0), true);
        CHECK.taken(x, "speed 0", x.told(10), 0);
        CHECK.taken(x, "they stand", x.told(3), 2);
        CHECK.taken(x, "though they clash", x.clashes(D), 1);
        CHECK.taken(x, "one more voids both", x.voids(C, D, 1, 2), 3);
        CHECK.is("60", x.ride(60), true);
        CHECK.taken(x, "speed 60", x.told(10), 60);
        CHECK.taken(x, "none now", x.voids(C, D, 1, 2), 0);
        CHECK.refused(x, "61", x.ride(61), 1);
        CHECK.refused(x, "-1", x.ride(-1), 1);
        CHECK.taken(x, "speed stays", x.told(10), 60);
    }

    /** Promise 19 from OATH 0 to OATH 15. */
    private static void oathsTold() {
        CHECK.promise(19);
        OathTill x = six("was e in le hour 7;");
        CHECK.refused(x, "none", x.oath(0, 0), 1);
        for (int i = 0; i < 15; i++) {
            x.swear(A, i / 8, 0, i % 8);
        }
        x.swear(F, E, 4, 7);
        int[] due = {F, E, 4, 7, 0, 0, 0, 1};
        for (int what = 0; what < 8; what++) {
            CHECK.taken(x, "the last one's " + what, x.oath(15, what), due[what]);
        }
        int[] first = {A, A, 0, 0, 5, 0, 0, 0};
        for (int what = 0; what < 8; what++) {
            CHECK.taken(x, "the first one's " + what, x.oath(0, what), first[what]);
        }
        CHECK.refused(x, "a 17th", x.oath(16, 0), 1);
        CHECK.refused(x, "what 8", x.oath(15, 8), 1);
        CHECK.refused(x, "what -1", x.oath(15, -1), 1);
        x.find(A, 1, 0);
        CHECK.taken(x, "void", x.oath(0, 5), 1);
        x.recant(1);
        CHECK.taken(x, "recanted", x.oath(1, 5), 2);
    }

    /** "4: how many OATHS it has sworn, 5: SPENT": with what does not STAND, without what was REFUNDED. */
    private static void personsTold() {
        CHECK.promise(15);
        OathTill x = six("twins e f;");
        for (int i = 0; i < 16; i++) {
            x.swear(A, i / 8, 0, i % 8);
        }
        CHECK.taken(x, "16 sworn", x.person(A, 4), 16);
        CHECK.taken(x, "80 spent", x.person(A, 5), 80);
        x.recant(0);
        x.find(A, 1, 1);
        x.find(A, 0, 2);
        CHECK.taken(x, "what does not stand counts", x.person(A, 4), 16);
        CHECK.taken(x, "what was refunded does not", x.person(A, 5), 75);
        CHECK.taken(x, "the purse has it", x.person(A, 0), 999 - 75);
        x.find(A, 1, 2);
        CHECK.taken(x, "void later, but refunded", x.person(A, 5), 75);
        CHECK.taken(x, "of who has not sworn", x.person(B, 4), 0);
        CHECK.taken(x, "nothing spent", x.person(B, 5), 0);
        CHECK.taken(x, "the last twin", x.person(F, 3), E);
        CHECK.taken(x, "the other", x.person(E, 3), F);
        CHECK.refused(x, "none", x.person(D, 3), 6);
        CHECK.promise(13);
        int[] due = {5, 6, 16, 13, 13, 2, 1, 1, 5, 2, 10, 75};
        for (int what = 0; what < 12; what++) {
            CHECK.taken(x, "told " + what, x.told(what), due[what]);
        }
    }
}
