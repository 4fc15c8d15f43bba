/** The boundary cases of promises 1 to 9, 52 and 53: a new object, STATUS, TRAYS, the tape, auctions. */
public final class TrayBoundaryTest {
    private static final Check CHECK = new Check();
    private static final int BLANKS = 0x20202020;

    public static void main(String[] args) {
        newObject();
        whoHasNoStatus();
        traySizes();
        trayAnew();
        cuts();
        noneAndMinusOne();
        pourEdges();
        pourOverlaps();
        tapeEdges();
        bidEdges();
        deadHeats();
        CHECK.end();
    }

    private static OathTill twoPersons() {
        OathTill x = new OathTill();
        Check.court(x, "place a at 0;person p purse 10;person q purse 10 bishop;");
        return x;
    }

    /** "A COURT of no PLACES, PERSONS; ..; the FRACTION 0 by 1; STATUS 0." */
    private static void newObject() {
        CHECK.promise(1);
        OathTill x = new OathTill();
        CHECK.is("status", x.status(), 0);
        CHECK.is("top", x.top(), 0);
        CHECK.is("bottom", x.bottom(), 1);
        CHECK.is("fault", x.fault(0), -1);
        CHECK.is("place of the fault", x.fault(1), -1);
        CHECK.is("an empty tape", x.feed(BLANKS, BLANKS, BLANKS, BLANKS, BLANKS), 20);
        int[] due = {0, 0, 0, 0, 0, 0, 0, 0, 5, 2, 10, 0};
        for (int what = 0; what < 12; what++) {
            CHECK.is("told " + what, x.told(what), due[what]);
        }
        CHECK.refused(x, "no place", x.mile(0), 1);
        CHECK.refused(x, "no person", x.person(0, 0), 1);
        CHECK.refused(x, "no oath", x.oath(0, 0), 1);
        CHECK.refused(x, "no trials", x.live(0), 6);
        CHECK.refused(x, "no mark", x.undo(), 6);
        for (int tray = 0; tray < 4; tray++) {
            CHECK.refused(x, "tray " + tray + " is missing", x.read(tray, 0), 2);
        }
        CHECK.is("another object is another one", new OathTill().status(), 0);
    }

    /** "status(), top(), bottom(), feed(), fault() have none." */
    private static void whoHasNoStatus() {
        OathTill x = twoPersons();
        CHECK.promise(2);
        CHECK.refused(x, "undo", x.undo(), 6);
        CHECK.is("status again", x.status(), 6);
        x.top();
        CHECK.is("behind top", x.status(), 6);
        x.bottom();
        CHECK.is("behind bottom", x.status(), 6);
        x.feed(0, 0, 0, 0, 0);
        CHECK.is("behind feed", x.status(), 6);
        x.fault(0);
        x.fault(1);
        x.fault(2);
        x.fault(-1);
        CHECK.is("behind fault", x.status(), 6);
        CHECK.is("a call that has one", x.tray(0, 0, 1), true);
        CHECK.is("status 0", x.status(), 0);
        CHECK.promise(3);
        x.swear(0, 0, 0, 0);
        x.kept();
        CHECK.is("top of a whole", x.top(), 1);
        CHECK.promise(4);
        CHECK.is("bottom of a whole", x.bottom(), 1);
        x.court(0);
        CHECK.refused(x, "kept of none", x.kept(), 6);
        CHECK.is("the latest told stays", x.top(), 1);
    }

    /** "rows of 0 to 60 numbers"; "TRAYS 0 to 3"; sorts 0 to 3. */
    private static void traySizes() {
        CHECK.promise(5);
        for (int tray = 0; tray < 4; tray++) {
            for (int sort = 0; sort < 4; sort++) {
                OathTill x = new OathTill();
                CHECK.is("a row of 60", x.tray(tray, sort, 60), true);
                CHECK.is("status", x.status(), 0);
                CHECK.is("its first", x.write(tray, 0, 7), true);
                CHECK.is("its last", x.write(tray, 59, 8), true);
                CHECK.refused(x, "behind its last", x.write(tray, 60, 9), 3);
                CHECK.is("first", x.read(tray, 0), 7);
                CHECK.is("last", x.read(tray, 59), 8);
                CHECK.is("a row of 1", x.tray(tray, sort, 1), true);
                CHECK.is("0", x.read(tray, 0), 0);
                CHECK.refused(x, "no second", x.read(tray, 1), 3);
                CHECK.is("a row of 0", x.tray(tray, sort, 0), true);
                CHECK.refused(x, "no first, but not missing", x.read(tray, 0), 3);
                CHECK.refused(x, "61", x.tray(tray, sort, 61), 1);
                CHECK.refused(x, "still none", x.read(tray, 0), 3);
                CHECK.refused(x, "another is missing", x.read((tray + 1) % 4, 0), 2);
            }
        }
    }

    /** "A TRAY is a row of so many 0s": in place of what it was. */
    private static void trayAnew() {
        CHECK.promise(5);
        OathTill x = new OathTill();
        x.tray(0, 3, 60);
        for (int i = 0; i < 60; i++) {
            x.write(0, i, 1000 + i);
        }
        x.tray(0, 0, 5);
        CHECK.is("laid anew, of another sort", x.tray(0, 2, 60), true);
        for (int i = 0; i < 60; i++) {
            CHECK.is("0 at " + i, x.read(0, i), 0);
        }
    }

    private static void cut(int sort, long v, long due) {
        OathTill x = new OathTill();
        x.tray(1, sort, 2);
        CHECK.is("write " + v, x.write(1, 1, v), true);
        CHECK.is(v + " cut to sort " + sort, x.read(1, 1), due);
        CHECK.is("the one ahead of it", x.read(1, 0), 0);
    }

    /** "cut to its sort": 8, 16, 32, 64 bits, the last that stays and the first that wraps around, on both sides. */
    private static void cuts() {
        CHECK.promise(6);
        int[] bits = {8, 16, 32};
        for (int sort = 0; sort < 3; sort++) {
            long half = 1L << (bits[sort] - 1);
            cut(sort, half - 1, half - 1);
            cut(sort, half, -half);
            cut(sort, -half, -half);
            cut(sort, -half - 1, half - 1);
            cut(sort, 2 * half - 1, -1);
            cut(sort, 2 * half, 0);
            cut(sort, -2 * half, 0);
            cut(sort, Long.MAX_VALUE, -1);
            cut(sort, Long.MIN_VALUE, 0);
            cut(sort, 1, 1);
            cut(sort, -1, -1);
        }
        cut(3, Long.MAX_VALUE, Long.MAX_VALUE);
        cut(3, Long.MIN_VALUE, Long.MIN_VALUE);
        cut(3, 1L << 32, 1L << 32);
        cut(3, -1, -1);
    }

    /** "STATUS tells NONE from -1". */
    private static void noneAndMinusOne() {
        CHECK.promise(7);
        OathTill x = new OathTill();
        for (int sort = 0; sort < 4; sort++) {
            x.tray(2, sort, 1);
            x.write(2, 0, -1);
            CHECK.refused(x, "NONE", x.read(2, 1), 3);
            CHECK.is("-1", x.read(2, 0), -1);
            CHECK.is("by status", x.status(), 0);
        }
    }

    private static OathTill counted(int many) {
        OathTill x = new OathTill();
        x.tray(0, 0, many);
        for (int i = 0; i < many; i++) {
            x.write(0, i, i + 1);
        }
        x.tray(1, 0, many);
        return x;
    }

    /** The most that can be poured, none, and the places that a row just has. */
    private static void pourEdges() {
        CHECK.promise(8);
        OathTill x = counted(60);
        CHECK.is("all 60", x.pour(0, 0, 1, 0, 60), true);
        CHECK.is("status", x.status(), 0);
        CHECK.is("the first", x.read(1, 0), 1);
        CHECK.is("the last", x.read(1, 59), 60);
        CHECK.is("the last to the first", x.pour(0, 59, 1, 0, 1), true);
        CHECK.is("is there", x.read(1, 0), 60);
        CHECK.is("the next is not touched", x.read(1, 1), 2);
        CHECK.is("the first to the last", x.pour(0, 0, 1, 59, 1), true);
        CHECK.is("is there, too", x.read(1, 59), 1);
        CHECK.is("the one ahead is not touched", x.read(1, 58), 59);
        CHECK.is("what was poured stays there", x.read(0, 0), 1);
        CHECK.refused(x, "one too many", x.pour(0, 0, 1, 0, 61), 3);
        CHECK.refused(x, "one too many from there", x.pour(0, 1, 1, 0, 60), 3);
        CHECK.refused(x, "one too many to there", x.pour(0, 0, 1, 1, 60), 3);
        CHECK.is("none", x.pour(0, 3, 1, 3, 0), true);
        CHECK.is("none came", x.read(1, 3), 4);
        x.tray(2, 0, 0);
        CHECK.is("none from an empty row", x.pour(2, 0, 1, 0, 0), true);
        CHECK.is("none into an empty row", x.pour(1, 0, 2, 0, 0), true);
        CHECK.refused(x, "one into an empty row", x.pour(1, 0, 2, 0, 1), 3);
        x.tray(2, 3, 60);
        CHECK.refused(x, "of unlike sorts", x.pour(0, 0, 2, 0, 1), 8);
        CHECK.refused(x, "missing is asked ahead of that", x.pour(2, 0, 3, 0, 1), 2);
        CHECK.refused(x, "below 0 is asked ahead of that", x.pour(2, 0, 3, 0, -1), 1);
        CHECK.refused(x, "unlike is asked ahead of too few", x.pour(0, 0, 2, 0, 61), 8);
    }

    /** "(or its own) place on, as they were": by one and by many, to both sides. */
    private static void pourOverlaps() {
        CHECK.promise(8);
        for (int step = 0; step <= 3; step++) {
            OathTill x = counted(6);
            CHECK.is("behind", x.pour(0, 0, 0, step, 6 - step), true);
            for (int i = 0; i < 6; i++) {
                CHECK.is("behind by " + step + " at " + i, x.read(0, i), i < step ? i + 1 : i - step + 1);
            }
            OathTill y = counted(6);
            CHECK.is("ahead", y.pour(0, step, 0, 0, 6 - step), true);
            for (int i = 0; i < 6; i++) {
                CHECK.is("ahead by " + step + " at " + i, y.read(0, i), i < 6 - step ? i + step + 1 : i + 1);
            }
        }
    }

    /** "Twenty bytes come behind those on the tape, the highest of each int first"; "NONE if there would be more than 900". */
    private static void tapeEdges() {
        CHECK.promise(9);
        OathTill x = new OathTill();
        // each byte of the twenty has a place of its own in this text
        CHECK.is("feed", x.feed(0x62617365, 0x2031323B, 0x6D6F7265, 0x2033343B, 0x0A20200A), 20);
        CHECK.is("behind those", x.feed(0x73706565, 0x64203536, 0x3B202020, BLANKS, BLANKS), 40);
        CHECK.is("court", x.court(40), 0);
        CHECK.is("base", x.told(8), 12);
        CHECK.is("more", x.told(9), 34);
        CHECK.is("speed", x.told(10), 56);
        CHECK.is("bytes above 127", x.feed(0x62617365, 0xE9202020, -1, -1, -1), 20);
        CHECK.refused(x, "are no token", x.court(20), 9);
        CHECK.is("at its place", x.fault(1), 4);
        for (int i = 1; i <= 44; i++) {
            CHECK.is("feed " + i, x.feed(BLANKS, BLANKS, BLANKS, BLANKS, BLANKS), 20 * i);
        }
        CHECK.is("up to 900", x.feed(BLANKS, BLANKS, BLANKS, 0x62617365, 0x2037373B), 900);
        CHECK.is("no more", x.feed(0, 0, 0, 0, 0), -1);
        CHECK.is("still no more", x.feed(0, 0, 0, 0, 0), -1);
        CHECK.refused(x, "901", x.court(901), 1);
        CHECK.is("the tape stays full", x.feed(0, 0, 0, 0, 0), -1);
        CHECK.is("900 bytes", x.court(900), 0);
        CHECK.is("the last bytes are read", x.told(8), 77);
        CHECK.is("and the tape is empty", x.feed(BLANKS, BLANKS, BLANKS, BLANKS, BLANKS), 20);
        CHECK.is("all of it, with what was not asked", x.court(0), 0);
        CHECK.is("empty", x.feed(BLANKS, BLANKS, BLANKS, BLANKS, BLANKS), 20);
    }

    private static OathTill bids(int sort, long... bids) {
        OathTill x = new OathTill();
        x.tray(0, sort, bids.length);
        for (int i = 0; i < bids.length; i++) {
            x.write(0, i, bids[i]);
        }
        return x;
    }

    /** "the first n (1 to 60)"; "a bid below 0, above 999,999". */
    private static void bidEdges() {
        CHECK.promise(52);
        long[] sixty = new long[60];
        for (int i = 0; i < 60; i++) {
            sixty[i] = 1000 - i % 7;
        }
        sixty[59] = 999999;
        OathTill x = bids(2, sixty);
        CHECK.is("60 bids", x.auction(0, 60), 59);
        CHECK.promise(53);
        CHECK.is("the second of 60", x.hammer(0, 60), 1000);
        CHECK.refused(x, "61", x.hammer(0, 61), 1);
        CHECK.refused(x, "0", x.hammer(0, 0), 1);
        CHECK.promise(52);
        CHECK.refused(x, "61", x.auction(0, 61), 1);
        CHECK.refused(x, "0", x.auction(0, 0), 1);
        CHECK.is("only the first n count", x.auction(0, 1), 0);
        x.write(0, 59, 1000000);
        CHECK.refused(x, "above 999,999", x.auction(0, 60), 5);
        CHECK.refused(x, "but behind the n", x.auction(0, 59), 6);
        x.write(0, 59, -1);
        CHECK.refused(x, "below 0", x.auction(0, 60), 5);
        CHECK.refused(x, "below 0 in hammer", x.hammer(0, 60), 5);
        x.write(0, 59, 0);
        CHECK.is("0 is a bid", x.hammer(0, 60), 1000);
        x.tray(0, 2, 59);
        CHECK.refused(x, "59 of 60", x.auction(0, 60), 3);
        CHECK.is("all but one bid 0", bids(0, 0, 0, 1).auction(0, 3), 2);
        CHECK.is("and it is for nothing", bids(0, 0, 0, 1).hammer(0, 3), 0);
        OathTill far = bids(3, 5, Long.MAX_VALUE, 3);
        CHECK.refused(far, "far above", far.auction(0, 3), 5);
        far.write(0, 1, Long.MIN_VALUE);
        CHECK.refused(far, "far below", far.auction(0, 3), 5);
        far.write(0, 1, 1L << 32);
        CHECK.refused(far, "above an int", far.hammer(0, 3), 5);
        CHECK.is("the first alone", far.auction(0, 1), 0);
        CHECK.is("the two highest bids there can be", bids(2, 999998, 999999).hammer(0, 2), 999998);
        CHECK.is("an 8-bit bid wraps around below 0", bids(0, 200).auction(0, 1), -1);
    }

    /** "who bids the most gets it for the second bid (0 without; of several the first); DEAD HEAT if two bid the most." */
    private static void deadHeats() {
        CHECK.promise(52);
        CHECK.is("the first of three", bids(1, 9, 8, 7).auction(0, 3), 0);
        CHECK.is("the last of three", bids(1, 7, 8, 9).auction(0, 3), 2);
        CHECK.is("two second ones are no dead heat", bids(1, 8, 9, 8).auction(0, 3), 1);
        long[][] ties = {{9, 9}, {9, 1, 9}, {1, 9, 9}, {9, 9, 1}, {9, 9, 9}, {0, 0}, {999999, 5, 999999}};
        for (long[] tie : ties) {
            OathTill x = bids(3, tie);
            CHECK.promise(52);
            CHECK.refused(x, "a dead heat of " + tie.length, x.auction(0, tie.length), 6);
            CHECK.promise(53);
            CHECK.is("what both bid", x.hammer(0, tie.length), Math.max(tie[0], tie[1]));
            CHECK.is("status", x.status(), 0);
        }
        CHECK.promise(53);
        CHECK.is("0 without a second", bids(1, 9).hammer(0, 1), 0);
        CHECK.is("the second ahead", bids(1, 8, 9).hammer(0, 2), 8);
        CHECK.is("the second behind", bids(1, 9, 8).hammer(0, 2), 8);
        CHECK.is("the second of more", bids(1, 3, 9, 5, 4).hammer(0, 4), 5);
        CHECK.promise(52);
        OathTill x = bids(1, 9, 9, -1);
        CHECK.refused(x, "a wrong bid is asked ahead of a dead heat", x.auction(0, 3), 5);
        CHECK.refused(x, "the dead heat alone", x.auction(0, 2), 6);
        CHECK.refused(x, "too few is asked ahead of a wrong bid", x.auction(0, 4), 3);
        CHECK.refused(x, "missing is asked ahead of too few", x.auction(1, 4), 2);
    }
}
