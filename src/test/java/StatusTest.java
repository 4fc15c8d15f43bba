/** Each call that is taken has STATUS 0, whatever STATUS the call ahead of it had; and answers as is due. */
public final class StatusTest {
    private static final Check CHECK = new Check();
    private static final int A = 0;
    private static final int B = 1;
    private static final int C = 2;

    private static OathTill x = new OathTill();

    public static void main(String[] args) {
        for (int refusal = 0; refusal < 3; refusal++) {
            x = new OathTill();
            trays(refusal);
            texts(refusal);
            swearing(refusal);
            whatFits(refusal);
            plans(refusal);
            rest(refusal);
        }
        the512th();
        CHECK.end();
    }

    /** A call that is refused, so that its STATUS stands. */
    private static void refuse(int refusal) {
        int[] statuses = {1, 2, 9};
        if (refusal == 0) {
            x.told(-1);
        } else if (refusal == 1) {
            x.read(3, 0);
        } else {
            x.feed(0x3B3B3B3B, 0, 0, 0, 0);
            x.court(1);
        }
        CHECK.is("the call ahead was refused", x.status(), statuses[refusal]);
    }

    private static void taken(int promise, String call, long got, long due) {
        CHECK.promise(promise);
        CHECK.is(call, got, due);
        CHECK.is(call + " status", x.status(), 0);
    }

    private static void done(int promise, String call, boolean got) {
        taken(promise, call, got ? 1 : 0, 1);
    }

    private static void trays(int r) {
        refuse(r);
        done(5, "tray", x.tray(0, 1, 3));
        x.tray(1, 1, 3);
        refuse(r);
        done(6, "write", x.write(0, 1, 5));
        refuse(r);
        taken(7, "read", x.read(0, 1), 5);
        refuse(r);
        done(8, "pour", x.pour(0, 0, 1, 0, 3));
        refuse(r);
        taken(52, "auction", x.auction(1, 3), 1);
        refuse(r);
        taken(53, "hammer", x.hammer(1, 3), 0);
    }

    private static void texts(int r) {
        String text = "place la at 3;place lb at 4;person a purse 50;person b purse 50;person c purse 50;twins a b;knows b c;"
            + "was c in lb hour 4;base 6;";
        refuse(r);
        x.trials(0);
        refuse(r);
        x.court(0);
        Check.feed(x, text);
        refuseWithoutTheTape(r);
        taken(10, "court", x.court(text.length()), 3);
        Check.feed(x, "stop;");
        refuseWithoutTheTape(r);
        taken(11, "trials", x.trials(5), 1);
        refuse(r);
        taken(13, "told", x.told(8), 6);
        refuse(r);
        taken(14, "mile", x.mile(1), 4);
        refuse(r);
        taken(15, "person", x.person(B, 0), 50);
        refuse(r);
        taken(15, "person's twin", x.person(B, 3), A);
        refuse(r);
        taken(16, "knows", x.knows(B, C), 1);
        refuse(r);
        taken(17, "kin", x.kin(C), 6);
        refuse(r);
        taken(18, "known", x.known(C, 4), 1);
    }

    private static void refuseWithoutTheTape(int r) {
        refuse(Math.min(r, 1));
    }

    private static void swearing(int r) {
        refuse(r);
        taken(20, "why", x.why(A, B, 0, 0), 0);
        refuse(r);
        taken(21, "fee", x.fee(A, B, 0, 0), 6);
        refuse(r);
        taken(22, "gainsaid", x.gainsaid(A, B, 0, 0), 0);
        refuse(r);
        taken(24, "voids", x.voids(A, B, 0, 0), 0);
        refuse(r);
        taken(25, "swear", x.swear(A, B, 0, 0), 0);
        refuse(r);
        taken(19, "oath", x.oath(0, 4), 6);
        refuse(r);
        taken(23, "backed", x.backed(B, 0, 0), 1);
        x.swear(B, B, 1, 0);
        x.swear(B, C, 0, 7);
        refuse(r);
        taken(26, "find", x.find(C, 0, 7), 1);
        refuse(r);
        taken(27, "recant", x.recant(2), 2);
        refuse(r);
        taken(28, "earn", x.earn(C, 1), 51);
        refuse(r);
        done(29, "meet", x.meet(A, C));
        refuse(r);
        done(30, "ride", x.ride(9));
    }

    private static void whatFits(int r) {
        refuse(r);
        taken(31, "fits", x.fits(0, 1), 0);
        refuse(r);
        taken(32, "road", x.road(0, 1), 1);
        refuse(r);
        taken(33, "canBe", x.canBe(A, 0), 3);
        refuse(r);
        taken(34, "ways", x.ways(A, true), 256);
        refuse(r);
        taken(35, "reach", x.reach(C, 4, false), 2);
        refuse(r);
        taken(36, "mostTrue", x.mostTrue(B), 1);
        refuse(r);
        taken(37, "mostTrueSet", x.mostTrueSet(B), 1);
        refuse(r);
        taken(38, "clashes", x.clashes(B), 1);
        refuse(r);
        taken(39, "doubt", x.doubt(B), 1);
        refuse(r);
        taken(40, "believed", x.believed(B, 0), 0);
    }

    private static void plans(int r) {
        refuse(r);
        taken(41, "alibi", x.alibi(A, 1, 7, 1), 6);
        refuse(r);
        taken(42, "alibiBy 0", x.alibiBy(0), 0);
        refuse(r);
        taken(42, "alibiBy 1", x.alibiBy(1), 1);
        refuse(r);
        taken(43, "call", x.call(A, B), 0);
        refuse(r);
        taken(44, "callBy 0", x.callBy(0), 0);
        refuse(r);
        taken(44, "callBy 1", x.callBy(1), 1);
        refuse(r);
        taken(44, "callBy 2", x.callBy(2), 6);
        refuse(r);
        taken(45, "sayable", x.sayable(A, B), 14);
        refuse(r);
        taken(46, "dearest", x.dearest(A, B), 6);
        refuse(r);
        taken(47, "liar", x.liar(), A);
        refuse(r);
        taken(48, "doubted", x.doubted(), B);
        refuse(r);
        done(49, "kept", x.kept());
        refuse(r);
        taken(50, "word", x.word(A, 1), 1);
        refuse(r);
        taken(51, "liars", x.liars(B), 3);
    }

    private static void rest(int r) {
        refuse(r);
        taken(54, "live", x.live(0), 1);
        refuse(r);
        taken(55, "lived", x.lived(4), 0);
        refuse(r);
        done(56, "mean", x.mean(0, 2));
        refuse(r);
        taken(57, "mark", x.mark(), 1);
        refuse(r);
        taken(58, "undo", x.undo(), 0);
    }

    /** "An object is used for at most 512 calls". */
    private static void the512th() {
        x = new OathTill();
        x.tray(0, 3, 60);
        for (int i = 0; i < 255; i++) {
            x.write(0, i % 60, i);
            CHECK.is("read " + i, x.read(0, i % 60), i);
        }
        CHECK.promise(7);
        CHECK.is("the 512th", x.read(0, 14), 254);
    }
}
