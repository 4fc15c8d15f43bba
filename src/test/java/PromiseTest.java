/** For each promise ordinary calls, the edges that the document names, and wrong inputs. */
public final class PromiseTest {
    private static final Check CHECK = new Check();

    /** Roads: inn to mill 2 hours, inn to port 3, mill to port 2. */
    private static final String TOWN =
        "place inn at 0;place mill at 12;\nplace port at 30;"
        + "person ann purse 50;person ben purse 20;person kid purse 9 child;person pope purse 0 bishop;"
        + "person eve purse 30;"
        + "twins ann ben;knows ann eve;"
        + "was ann in inn hour 0;was ben in mill hour 3;base 6;more 3;speed 10;";
    private static final int INN = 0;
    private static final int MILL = 1;
    private static final int PORT = 2;
    private static final int ANN = 0;
    private static final int BEN = 1;
    private static final int KID = 2;
    private static final int POPE = 3;
    private static final int EVE = 4;

    public static void main(String[] args) {
        newObject();
        statusAndFraction();
        trays();
        pouring();
        feeding();
        courts();
        courtFaults();
        trialsTexts();
        trialsFaults();
        faultTold();
        toldNumbers();
        persons();
        acquaintance();
        knownAndOath();
        whyNot();
        fees();
        voiding();
        swearing();
        finding();
        recanting();
        smallChanges();
        fitsAndRoads();
        whereabouts();
        mostTrue();
        clashesAndDoubt();
        alibis();
        calls();
        sayableAndDearest();
        liars();
        keptAndWord();
        auctions();
        living();
        livingLimits();
        livedNow();
        means();
        marks();
        CHECK.end();
    }

    private static OathTill town() {
        OathTill x = new OathTill();
        CHECK.is("court of the town", Check.court(x, TOWN), 5);
        return x;
    }

    private static void newObject() {
        CHECK.promise(1);
        OathTill x = new OathTill();
        CHECK.is("status", x.status(), 0);
        CHECK.is("top", x.top(), 0);
        CHECK.is("bottom", x.bottom(), 1);
        int[] due = {0, 0, 0, 0, 0, 0, 0, 0, 5, 2, 10, 0};
        for (int what = 0; what < 12; what++) {
            CHECK.is("told " + what, x.told(what), due[what]);
        }
        for (int tray = 0; tray < 4; tray++) {
            CHECK.refused(x, "read", x.read(tray, 0), 2);
        }
        CHECK.refused(x, "court(1) of an empty tape", x.court(1), 1);
        CHECK.refused(x, "undo", x.undo(), 6);
        CHECK.refused(x, "live", x.live(0), 6);
        CHECK.is("NONE", OathTill.NONE, -1);
    }

    private static void statusAndFraction() {
        OathTill x = town();
        CHECK.promise(2);
        x.mile(9);
        CHECK.is("status of mile", x.status(), 1);
        x.top();
        x.bottom();
        x.fault(7);
        x.feed(0, 0, 0, 0, 0);
        CHECK.is("status stays", x.status(), 1);
        x.mile(0);
        CHECK.is("status again", x.status(), 0);
        CHECK.promise(3);
        x.swear(ANN, BEN, INN, 1);
        x.swear(BEN, BEN, INN, 1);
        x.find(BEN, INN, 1);
        x.swear(EVE, KID, INN, 1);
        CHECK.is("kept", x.kept(), true);
        CHECK.is("top", x.top(), 2);
        CHECK.promise(4);
        CHECK.is("bottom", x.bottom(), 5);
        x.find(KID, INN, 1);
        CHECK.is("kept of nothing", x.kept(), true);
        CHECK.is("top 0", x.top(), 0);
        CHECK.is("bottom 1", x.bottom(), 1);
    }

    private static void trays() {
        OathTill x = new OathTill();
        CHECK.promise(5);
        CHECK.is("tray", x.tray(0, 0, 60), true);
        CHECK.refused(x, "tray -1", x.tray(-1, 0, 1), 1);
        CHECK.refused(x, "tray 4", x.tray(4, 0, 1), 1);
        CHECK.refused(x, "sort -1", x.tray(1, -1, 1), 1);
        CHECK.refused(x, "sort 4", x.tray(1, 4, 1), 1);
        CHECK.refused(x, "many -1", x.tray(1, 0, -1), 1);
        CHECK.refused(x, "many 61", x.tray(1, 0, 61), 1);
        CHECK.is("empty tray", x.tray(3, 3, 0), true);
        CHECK.refused(x, "read of an empty one", x.read(3, 0), 3);
        CHECK.promise(6);
        CHECK.is("write", x.write(0, 59, 200), true);
        CHECK.refused(x, "write tray 4", x.write(4, 0, 0), 1);
        CHECK.refused(x, "write missing", x.write(1, 0, 0), 2);
        CHECK.refused(x, "write missing at -1", x.write(1, -1, 0), 2);
        CHECK.refused(x, "write at 60", x.write(0, 60, 0), 3);
        CHECK.refused(x, "write at -1", x.write(0, -1, 0), 3);
        CHECK.promise(7);
        CHECK.is("cut to 8 bits", x.read(0, 59), -56);
        CHECK.is("status", x.status(), 0);
        x.write(0, 0, -1);
        CHECK.is("-1", x.read(0, 0), -1);
        CHECK.is("-1 is no refusal", x.status(), 0);
        CHECK.refused(x, "read tray -1", x.read(-1, 0), 1);
        CHECK.refused(x, "read missing", x.read(2, 0), 2);
        CHECK.refused(x, "read at 60", x.read(0, 60), 3);
        CHECK.refused(x, "read at -1", x.read(0, -1), 3);
        long wide = 0x123456789ABCDEF0L;
        long[] due = {(byte) wide, (short) wide, (int) wide, wide};
        for (int sort = 0; sort < 4; sort++) {
            x.tray(1, sort, 3);
            x.write(1, 2, wide);
            CHECK.is("sort " + sort, x.read(1, 2), due[sort]);
            CHECK.is("0s", x.read(1, 1), 0);
        }
        x.tray(1, 3, 3);
        CHECK.is("a row of 0s again", x.read(1, 2), 0);
    }

    private static void pouring() {
        OathTill x = new OathTill();
        CHECK.promise(8);
        x.tray(0, 1, 5);
        x.tray(1, 1, 3);
        x.tray(2, 2, 5);
        for (int i = 0; i < 5; i++) {
            x.write(0, i, i + 1);
        }
        CHECK.is("pour", x.pour(0, 2, 1, 0, 3), true);
        CHECK.is("poured 0", x.read(1, 0), 3);
        CHECK.is("poured 2", x.read(1, 2), 5);
        CHECK.is("pour into itself", x.pour(0, 0, 0, 1, 4), true);
        for (int i = 0; i < 5; i++) {
            CHECK.is("as they were " + i, x.read(0, i), i == 0 ? 1 : i);
        }
        CHECK.is("pour back", x.pour(0, 1, 0, 0, 4), true);
        CHECK.is("back 3", x.read(0, 3), 4);
        CHECK.is("none", x.pour(0, 5, 1, 3, 0), true);
        CHECK.refused(x, "from -1", x.pour(-1, 0, 1, 0, 1), 1);
        CHECK.refused(x, "to 4", x.pour(0, 0, 4, 0, 1), 1);
        CHECK.refused(x, "place -1", x.pour(0, -1, 1, 0, 1), 1);
        CHECK.refused(x, "at -1", x.pour(0, 0, 1, -1, 1), 1);
        CHECK.refused(x, "many -1 of a missing one", x.pour(0, 0, 3, 0, -1), 1);
        CHECK.refused(x, "missing", x.pour(0, 0, 3, 0, 1), 2);
        CHECK.refused(x, "missing first", x.pour(3, 9, 0, 0, 1), 2);
        CHECK.refused(x, "unlike", x.pour(0, 9, 2, 0, 1), 8);
        CHECK.refused(x, "too few", x.pour(0, 2, 1, 0, 4), 3);
        CHECK.refused(x, "too few there", x.pour(0, 0, 1, 1, 3), 3);
        CHECK.refused(x, "far", x.pour(0, Integer.MAX_VALUE, 1, 0, Integer.MAX_VALUE), 3);
    }

    private static void feeding() {
        OathTill x = new OathTill();
        CHECK.promise(9);
        for (int i = 1; i <= 45; i++) {
            CHECK.is("feed", x.feed(0x20202020, 0x0A202020, 0x20202020, 0x20202020, 0x20202041), 20 * i);
        }
        CHECK.is("too much", x.feed(0, 0, 0, 0, 0), -1);
        CHECK.is("status untouched", x.status(), 0);
        CHECK.is("court of what was fed", x.court(900), -1);
        CHECK.is("the 20th byte is the last one's lowest", x.fault(1), 19);
        CHECK.is("empty again", x.feed(0x62617365, 0x20373B00, 0, 0, 0), 20);
        CHECK.is("highest first", x.court(7), 0);
        CHECK.is("base", x.told(8), 7);
    }

    private static void courts() {
        OathTill x = town();
        CHECK.promise(10);
        x.swear(ANN, BEN, INN, 1);
        Check.trials(x, "stop;");
        Check.feed(x, "base 1;");
        CHECK.refused(x, "court(-1)", x.court(-1), 1);
        CHECK.refused(x, "court(21)", x.court(21), 1);
        CHECK.is("the tape is still there", x.feed(0, 0, 0, 0, 0), 40);
        CHECK.refused(x, "court with a fault", x.court(9), 9);
        CHECK.is("the tape is empty", x.feed(0, 0, 0, 0, 0), 20);
        CHECK.is("the old one stays", x.told(1), 5);
        CHECK.is("its oaths too", x.told(2), 1);
        CHECK.is("its trials too", x.live(0), 1);
        CHECK.is("a new one", Check.court(x, "") , 0);
        CHECK.is("status", x.status(), 0);
        CHECK.is("the tape is empty now", x.feed(0, 0, 0, 0, 0), 20);
        CHECK.is("no oaths", x.told(2), 0);
        CHECK.is("till", x.told(11), 0);
        CHECK.is("base as without", x.told(8), 5);
        CHECK.refused(x, "no trials", x.live(0), 6);
        x.court(0);
        CHECK.is("blanks alone", Check.court(x, " \n \n  "), 0);
        CHECK.is("no blanks", Check.court(x, "speed 0060;more 0;place abcdefgh at 60;person p purse 999child bishop;"), 1);
        CHECK.is("speed", x.told(10), 60);
        CHECK.is("more", x.told(9), 0);
        CHECK.is("child", x.person(0, 1), 1);
        CHECK.is("bishop", x.person(0, 2), 1);
        CHECK.is("told again: the latest", Check.court(x,
            "place a at 1;place b at 1;person p purse 0;was p in a hour 7;was p in b hour 7;"), 1);
        CHECK.is("known", x.known(0, 7), 1);
    }

    private static void courtFault(String text, int kind, int place) {
        OathTill x = new OathTill();
        CHECK.refused(x, text, Check.court(x, text), 9);
        CHECK.is("fault of " + text, x.fault(0), kind);
        CHECK.is("place of the fault of " + text, x.fault(1), place);
    }

    private static void courtFaults() {
        CHECK.promise(10);
        courtFault("base ?;", 1, 5);
        courtFault("base\t5;", 1, 4);
        courtFault("Base 5;", 1, 0);
        courtFault("base 12345;", 1, 5);
        courtFault("place 12345", 1, 6);
        courtFault("base " + (char) 233, 1, 5);
        courtFault("base", 2, 4);
        courtFault("base  ", 2, 6);
        courtFault("base 5", 2, 6);
        courtFault("base 5 5;", 2, 7);
        courtFault("base five;", 2, 5);
        courtFault(";", 2, 0);
        courtFault("base = 5;", 2, 5);
        courtFault("swear;", 2, 0);
        courtFault("place abcdefghi at 5;", 2, 6);
        courtFault("placeholder a at 5;", 2, 0);
        courtFault("place stop at 5;", 2, 6);
        courtFault("place till at 5;", 2, 6);
        courtFault("place a in 5;", 2, 8);
        courtFault("person p purse 5 bishop child;", 2, 24);
        courtFault("person p purse 5 child child;", 2, 23);
        courtFault("twins", 2, 5);
        courtFault("place a at 5;person a purse 5;", 3, 20);
        courtFault("person a purse 5;place a at 5;", 3, 23);
        courtFault("person a purse 5;person a purse 5;", 3, 24);
        courtFault("twins a b;", 3, 6);
        courtFault("person a purse 5;knows a b;", 3, 25);
        courtFault("place a at 5;person p purse 5;was a in a hour 0;", 3, 34);
        courtFault("place a at 5;person p purse 5;was p in p hour 0;", 3, 39);
        courtFault("place a at 5;person p purse 5;was p in a hour 8;", 4, 46);
        courtFault("place a at 61;", 4, 11);
        courtFault("person a purse 1000;", 4, 15);
        courtFault("base 100;", 4, 5);
        courtFault("more 100;", 4, 5);
        courtFault("speed 61;", 4, 6);
        courtFault("base 1;base", 5, 7);
        courtFault("more 1;base 1;more 500;", 5, 14);
        courtFault("speed 1;speed 2;", 5, 8);
        String five = "person a purse 0;person b purse 0;person c purse 0;person d purse 0;";
        courtFault(five + "knows a a;", 5, 76);
        courtFault(five + "twins a a;", 5, 76);
        courtFault(five + "twins a b;twins b c;", 5, 84);
        courtFault(five + "twins a b;twins c a;", 5, 86);
        courtFault(five + "twins a b;twins a a;", 5, 84);
        courtFault("place a at 0;place b at 0;place c at 0;place d at 0;place e at 0;place", 6, 65);
        courtFault(five + "person e purse 0;person f purse 0;person 7", 6, 102);
        CHECK.is("known twice is no fault", Check.court(new OathTill(), five + "knows a b;knows b a;"), 4);
        CHECK.is("five places, six persons", Check.court(new OathTill(), five + "person e purse 0;person f purse 0;"
            + "place pa at 0;place pb at 0;place pc at 0;place pd at 0;place pe at 0;"), 6);
    }

    private static void trialsTexts() {
        OathTill x = town();
        CHECK.promise(11);
        String text = "swear ann says ben in inn hour 1;any eve says kid;find ben in mill hour 7;recant ann;"
            + "when till<10;loop 99;when purse ann=9999;stop;end;end;end;when stands ben in inn hour 0;end;loop 1;end;";
        CHECK.is("trials", Check.trials(x, text), 10);
        Check.feed(x, text);
        CHECK.refused(x, "trials(-1)", x.trials(-1), 1);
        CHECK.refused(x, "more than the tape has", x.trials(241), 1);
        CHECK.is("the tape is still there", x.trials(33), 1);
        CHECK.is("the tape is empty now", x.feed(0, 0, 0, 0, 0), 20);
        for (int i = 0; i < 16; i++) {
            x.feed(0x20202020, 0x20202020, 0x20202020, 0x20202020, 0x20202020);
        }
        CHECK.refused(x, "trials(301)", x.trials(301), 1);
        CHECK.refused(x, "a zero byte", x.trials(300), 9);
        Check.feed(x, " ".repeat(320));
        CHECK.is("300 bytes", x.trials(300), 0);
        CHECK.is("none of none", x.live(0), 0);
        CHECK.is("status", x.status(), 0);
        CHECK.is("30 steps", Check.trials(x, "stop;".repeat(30)), 30);
        CHECK.is("ends are none", Check.trials(x, "loop 1;end;".repeat(15) + "stop;".repeat(15)), 30);
        CHECK.is("three deep", Check.trials(x, "loop 1;loop 1;loop 1;stop;end;end;end;loop 1;end;"), 5);
    }

    private static void trialsFault(String text, int kind, int place) {
        OathTill x = town();
        Check.trials(x, "stop;stop;");
        CHECK.refused(x, text, Check.trials(x, text), 9);
        CHECK.is("fault of " + text, x.fault(0), kind);
        CHECK.is("place of the fault of " + text, x.fault(1), place);
        CHECK.is("the old ones stay", x.live(0), 1);
        CHECK.is("the tape is empty", x.feed(0, 0, 0, 0, 0), 20);
    }

    private static void trialsFaults() {
        CHECK.promise(11);
        trialsFault("stop,", 1, 4);
        trialsFault("loop 12345;", 1, 5);
        trialsFault("end;", 2, 0);
        trialsFault("loop 1;end;end;", 2, 11);
        trialsFault("loop 1;stop;", 2, 12);
        trialsFault("loop 1;stop;  ", 2, 14);
        trialsFault("loop 1;end", 2, 10);
        trialsFault("place a at 0;", 2, 0);
        trialsFault("stop", 2, 4);
        trialsFault("when purse < 5;end;", 2, 11);
        trialsFault("when till 5;end;", 2, 10);
        trialsFault("when till ; 5;end;", 2, 10);
        trialsFault("when ann;end;", 2, 5);
        trialsFault("swear ann ben in inn hour 0;", 2, 10);
        trialsFault("swear abcdefghi says", 2, 6);
        trialsFault("any ann says ben in inn", 2, 17);
        trialsFault("swear annie says", 3, 6);
        trialsFault("swear inn says", 3, 6);
        trialsFault("swear ann says ben in eve hour 0;", 3, 22);
        trialsFault("recant mill;", 3, 7);
        trialsFault("when stands inn", 3, 12);
        trialsFault("find ben in inn hour 8;", 4, 21);
        trialsFault("loop 0;end;", 4, 5);
        trialsFault("loop 100;end;", 4, 5);
        trialsFault("stop;".repeat(30) + "stop", 6, 150);
        trialsFault("stop;".repeat(30) + "halt", 2, 150);
        trialsFault("loop 1;loop 1;loop 1;loop 1;", 7, 21);
        trialsFault("loop 1;when till=1;loop 1;when", 7, 26);
        trialsFault("loop 1;loop 1;loop 1;" + "stop;".repeat(27) + "loop 1;", 6, 156);
    }

    private static void faultTold() {
        OathTill x = new OathTill();
        CHECK.promise(12);
        CHECK.is("ahead of any", x.fault(0), -1);
        CHECK.is("place ahead of any", x.fault(1), -1);
        x.court(5);
        CHECK.is("status 1 tells nothing", x.fault(0), -1);
        Check.court(x, "base 5");
        CHECK.is("fault", x.fault(0), 2);
        CHECK.is("place", x.fault(1), 6);
        x.court(5);
        CHECK.is("the latest with 0 or 9", x.fault(1), 6);
        CHECK.is("others", x.fault(2), -1);
        CHECK.is("others below", x.fault(-1), -1);
        Check.trials(x, "stop;");
        CHECK.is("without one", x.fault(0), 0);
        CHECK.is("place without one", x.fault(1), -1);
    }

    private static void toldNumbers() {
        OathTill x = town();
        CHECK.promise(13);
        x.swear(ANN, BEN, INN, 1);
        x.swear(EVE, KID, MILL, 2);
        x.swear(BEN, BEN, MILL, 3);
        x.swear(KID, BEN, MILL, 1);
        x.recant(2);
        x.find(KID, MILL, 2);
        int[] due = {3, 5, 4, 2, 1, 1, 1, 1, 6, 3, 10, 15};
        for (int what = 0; what < 12; what++) {
            CHECK.is("told " + what, x.told(what), due[what]);
        }
        CHECK.refused(x, "told 12", x.told(12), 1);
        CHECK.refused(x, "told -1", x.told(-1), 1);
        CHECK.promise(14);
        CHECK.is("mile", x.mile(1), 12);
        CHECK.refused(x, "mile 3", x.mile(3), 1);
        CHECK.refused(x, "mile -1", x.mile(-1), 1);
    }

    private static void persons() {
        OathTill x = town();
        CHECK.promise(15);
        CHECK.is("purse", x.person(EVE, 0), 30);
        CHECK.is("child", x.person(KID, 1), 1);
        CHECK.is("no child", x.person(POPE, 1), 0);
        CHECK.is("bishop", x.person(POPE, 2), 1);
        CHECK.is("no bishop", x.person(KID, 2), 0);
        CHECK.is("twin", x.person(BEN, 3), ANN);
        CHECK.refused(x, "no twin", x.person(EVE, 3), 6);
        x.swear(EVE, KID, MILL, 2);
        x.swear(EVE, KID, MILL, 3);
        x.swear(EVE, KID, MILL, 4);
        x.recant(0);
        x.find(KID, MILL, 3);
        CHECK.is("sworn", x.person(EVE, 4), 3);
        CHECK.is("spent", x.person(EVE, 5), 12);
        CHECK.is("purse then", x.person(EVE, 0), 18);
        CHECK.is("none sworn", x.person(KID, 4), 0);
        CHECK.refused(x, "what 6", x.person(EVE, 6), 1);
        CHECK.refused(x, "what -1", x.person(EVE, -1), 1);
        CHECK.refused(x, "person 5", x.person(5, 0), 1);
        CHECK.refused(x, "person -1", x.person(-1, 3), 1);
    }

    private static void acquaintance() {
        OathTill x = town();
        CHECK.promise(16);
        CHECK.is("knows", x.knows(EVE, ANN), 1);
        CHECK.is("knows not", x.knows(ANN, BEN), 0);
        CHECK.refused(x, "itself", x.knows(ANN, ANN), 1);
        CHECK.refused(x, "nobody", x.knows(ANN, 5), 1);
        CHECK.promise(17);
        CHECK.is("kin", x.kin(EVE), 1 + 16);
        CHECK.is("alone", x.kin(KID), 4);
        CHECK.promise(29);
        CHECK.is("meet", x.meet(KID, EVE), true);
        CHECK.refused(x, "they do", x.meet(EVE, KID), 7);
        CHECK.refused(x, "meet itself", x.meet(KID, KID), 1);
        CHECK.refused(x, "meet nobody", x.meet(-1, KID), 1);
        CHECK.promise(17);
        CHECK.is("meet also the twin", x.meet(POPE, KID), true);
        CHECK.is("by others", x.kin(ANN), 1 + 4 + 8 + 16);
        CHECK.is("not directly", x.knows(ANN, KID), 0);
        CHECK.is("still alone", x.kin(BEN), 2);
        CHECK.refused(x, "kin 5", x.kin(5), 1);
    }

    private static void knownAndOath() {
        OathTill x = town();
        CHECK.promise(18);
        CHECK.is("known", x.known(BEN, 3), MILL);
        CHECK.refused(x, "not known", x.known(BEN, 4), 6);
        CHECK.refused(x, "hour 8", x.known(BEN, 8), 1);
        CHECK.refused(x, "person 5", x.known(5, 0), 1);
        CHECK.promise(19);
        x.swear(ANN, BEN, PORT, 5);
        int[] due = {ANN, BEN, PORT, 5, 6, 0, 0, 0};
        for (int what = 0; what < 8; what++) {
            CHECK.is("oath " + what, x.oath(0, what), due[what]);
        }
        x.find(BEN, PORT, 5);
        CHECK.is("the fee paid", x.oath(0, 4), 6);
        CHECK.is("refunded", x.oath(0, 6), 1);
        CHECK.is("true", x.oath(0, 7), 1);
        x.recant(0);
        CHECK.is("recanted", x.oath(0, 5), 2);
        CHECK.is("still refunded", x.oath(0, 6), 1);
        x.find(BEN, INN, 5);
        CHECK.is("true no more", x.oath(0, 7), 0);
        CHECK.is("recanted for good", x.oath(0, 5), 2);
        CHECK.refused(x, "what 8", x.oath(0, 8), 1);
        CHECK.refused(x, "oath 1", x.oath(1, 0), 1);
        CHECK.refused(x, "oath -1", x.oath(-1, 0), 1);
    }

    private static void whyNot() {
        OathTill x = town();
        CHECK.promise(20);
        CHECK.is("it can", x.why(ANN, KID, INN, 2), 0);
        CHECK.is("3: never doubted", x.why(EVE, BEN, INN, 3), 3);
        CHECK.is("true", x.why(EVE, BEN, MILL, 3), 0);
        x.swear(ANN, BEN, INN, 1);
        CHECK.is("2", x.why(ANN, BEN, MILL, 1), 2);
        CHECK.is("2: the same again", x.why(ANN, BEN, INN, 1), 2);
        CHECK.is("4", x.why(EVE, BEN, INN, 1), 4);
        CHECK.is("4 of another hour", x.why(EVE, BEN, INN, 7), 4);
        CHECK.is("not 4 of another person", x.why(EVE, KID, INN, 7), 0);
        CHECK.is("not 4 for what is true", x.why(EVE, BEN, MILL, 3), 0);
        CHECK.is("3 ahead of 4", x.why(EVE, BEN, INN, 3), 3);
        CHECK.is("5 is not", x.why(KID, BEN, MILL, 1), 0);
        x.swear(POPE, BEN, MILL, 1);
        CHECK.is("doubted now", x.why(BEN, BEN, PORT, 3), 0);
        CHECK.is("5", x.why(KID, BEN, PORT, 1), 5);
        CHECK.is("4 ahead of 5", x.meet(KID, POPE), true);
        CHECK.is("4", x.why(KID, BEN, PORT, 1), 4);
        for (int hour = 0; hour < 7; hour++) {
            x.swear(POPE, ANN, INN, hour);
            x.swear(POPE, KID, INN, hour);
        }
        CHECK.is("16 oaths", x.told(2), 16);
        CHECK.is("1", x.why(POPE, BEN, INN, 1), 1);
        CHECK.refused(x, "a 17th", x.swear(ANN, BEN, MILL, 3), 7);
        CHECK.refused(x, "witness 5", x.why(5, BEN, INN, 1), 1);
        CHECK.refused(x, "person 5", x.why(ANN, 5, INN, 1), 1);
        CHECK.refused(x, "place 3", x.why(ANN, BEN, 3, 1), 1);
        CHECK.refused(x, "hour 8", x.why(ANN, BEN, INN, 8), 1);
    }

    private static void fees() {
        OathTill x = town();
        CHECK.promise(21);
        CHECK.is("base", x.fee(ANN, BEN, INN, 1), 6);
        CHECK.is("true", x.fee(ANN, BEN, MILL, 3), 0);
        CHECK.is("whether it can or not", x.fee(ANN, BEN, INN, 3), 6);
        CHECK.is("bishop", x.fee(POPE, BEN, INN, 1), 0);
        x.swear(ANN, KID, INN, 1);
        x.swear(POPE, KID, MILL, 1);
        x.swear(KID, KID, MILL, 4);
        CHECK.is("gainsaid once", x.fee(EVE, KID, INN, 1), 9);
        CHECK.is("gainsaid twice", x.fee(EVE, KID, PORT, 1), 12);
        CHECK.is("not by itself", x.fee(ANN, KID, MILL, 1), 6);
        CHECK.is("half of 9, rounded up", x.fee(BEN, KID, INN, 1), 5);
        CHECK.is("the twin says otherwise", x.fee(BEN, KID, MILL, 1), 9);
        CHECK.is("the twin says another hour", x.fee(BEN, KID, INN, 4), 9);
        x.recant(0);
        CHECK.is("the twin's does not stand", x.fee(BEN, KID, INN, 1), 9);
        CHECK.refused(x, "fee", x.fee(-1, KID, INN, 1), 1);
        CHECK.promise(22);
        CHECK.is("gainsaid", x.gainsaid(EVE, KID, INN, 1), 1);
        CHECK.is("not by itself", x.gainsaid(POPE, KID, INN, 1), 0);
        CHECK.is("not by the same", x.gainsaid(EVE, KID, MILL, 1), 0);
        CHECK.refused(x, "gainsaid", x.gainsaid(EVE, KID, -1, 1), 1);
        CHECK.promise(23);
        x.swear(EVE, KID, MILL, 1);
        CHECK.is("backed", x.backed(KID, MILL, 1), 2);
        CHECK.is("not backed", x.backed(KID, INN, 1), 0);
        CHECK.is("of another", x.backed(BEN, MILL, 1), 0);
        CHECK.refused(x, "backed", x.backed(KID, MILL, 8), 1);
    }

    private static void voiding() {
        OathTill x = town();
        CHECK.promise(24);
        CHECK.is("none", x.voids(ANN, BEN, INN, 1), 0);
        x.swear(ANN, BEN, INN, 1);
        x.swear(POPE, BEN, INN, 2);
        CHECK.is("those that do not fit, and itself", x.voids(BEN, BEN, PORT, 3 - 1), 2);
        CHECK.is("it fits both", x.voids(BEN, BEN, PORT, 6), 0);
        CHECK.is("it fits none", x.voids(BEN, BEN, PORT, 0), 3);
        CHECK.is("a child's, of the hour, not itself", x.voids(KID, BEN, MILL, 1), 3);
        CHECK.is("true", x.voids(EVE, BEN, MILL, 3), 0);
        CHECK.refused(x, "it can't be sworn", x.voids(EVE, BEN, INN, 1), 7);
        CHECK.refused(x, "no such", x.voids(EVE, BEN, INN, -1), 1);
        CHECK.is("nothing came of it", x.told(3), 2);
        x.find(BEN, INN, 2);
        CHECK.is("what is true does not clash", x.voids(BEN, BEN, PORT, 0), 2);
    }

    private static void swearing() {
        OathTill x = town();
        CHECK.promise(25);
        CHECK.is("swear", x.swear(ANN, BEN, INN, 1), 0);
        CHECK.is("purse", x.person(ANN, 0), 44);
        CHECK.is("till", x.told(11), 6);
        CHECK.is("the twin's", x.swear(BEN, BEN, INN, 1), 1);
        CHECK.is("half", x.oath(1, 4), 3);
        CHECK.is("a child's", x.swear(KID, BEN, INN, 2), 2);
        CHECK.is("it stands", x.told(3), 3);
        CHECK.is("a bishop's, of the hour", x.swear(POPE, BEN, PORT, 2), 3);
        CHECK.is("it did not fit those of hour 1", x.oath(3, 5), 1);
        CHECK.is("they are void", x.oath(0, 5), 1);
        CHECK.is("both", x.oath(1, 5), 1);
        CHECK.is("of the same hour: not", x.oath(2, 5), 0);
        CHECK.is("the fee is lost", x.told(11), 15);
        CHECK.refused(x, "hindered", x.swear(KID, BEN, INN, 2), 7);
        CHECK.is("ann can again", x.swear(ANN, BEN, MILL, 2), 4);
        CHECK.is("gainsaid by the kid", x.oath(4, 4), 9);
        x.earn(KID, 50);
        CHECK.is("the kid's of a true one", x.swear(KID, BEN, MILL, 3), 5);
        x.recant(2);
        CHECK.is("the kid again", x.swear(KID, BEN, INN, 2), 6);
        CHECK.is("voids ann's", x.oath(4, 5), 1);
        CHECK.is("stands", x.oath(6, 5), 0);
        CHECK.refused(x, "wrong", x.swear(KID, BEN, INN, 8), 1);
        OathTill y = town();
        y.swear(POPE, BEN, PORT, 3);
        CHECK.is("3", y.told(2), 0);
        y.swear(POPE, KID, MILL, 3);
        y.swear(EVE, KID, PORT, 3);
        CHECK.is("a child's of itself", y.swear(KID, KID, PORT, 3), 2);
        CHECK.is("voids only who gainsays", y.oath(0, 5), 1);
        CHECK.is("not who agrees", y.oath(1, 5), 0);
    }

    private static void finding() {
        OathTill x = town();
        CHECK.promise(26);
        x.swear(ANN, KID, INN, 1);
        x.swear(POPE, KID, INN, 1);
        x.swear(BEN, KID, INN, 3);
        x.swear(BEN, KID, MILL, 1);
        CHECK.is("refunded, of a bishop too", x.find(KID, INN, 1), 2);
        CHECK.is("purse", x.person(ANN, 0), 50);
        CHECK.is("the other is void", x.oath(3, 5), 1);
        CHECK.is("another hour stands", x.oath(2, 5), 0);
        CHECK.is("till", x.told(11), 6 + 12);
        CHECK.is("again: none", x.find(KID, INN, 1), 0);
        CHECK.is("in place of what was", x.find(KID, MILL, 1), 0);
        CHECK.is("known", x.known(KID, 1), MILL);
        CHECK.is("void now", x.oath(0, 5), 1);
        CHECK.is("nothing more", x.told(11), 6 + 12);
        CHECK.refused(x, "person", x.find(5, INN, 1), 1);
        CHECK.refused(x, "place", x.find(KID, 3, 1), 1);
        CHECK.refused(x, "hour", x.find(KID, INN, -1), 1);
        OathTill y = town();
        y.swear(ANN, ANN, INN, 0);
        CHECK.is("what was true is not refunded", y.find(ANN, INN, 0), 0);
        CHECK.is("not refunded", y.oath(0, 6), 0);
        y.swear(POPE, ANN, INN, 5);
        y.swear(BEN, ANN, MILL, 5);
        y.swear(EVE, ANN, PORT, 0);
        CHECK.is("a lie of a known hour stands", y.oath(3, 5), 0);
        CHECK.is("three lies", y.told(4), 3);
        CHECK.is("what is known is found again", y.find(ANN, INN, 0), 0);
        CHECK.is("who says otherwise is void", y.oath(3, 5), 1);
        CHECK.is("who says so stands", y.oath(0, 5), 0);
    }

    private static void recanting() {
        OathTill x = town();
        CHECK.promise(27);
        x.swear(ANN, KID, INN, 1);
        x.swear(EVE, KID, INN, 1);
        x.swear(POPE, KID, INN, 1);
        CHECK.is("recant", x.recant(0), 1);
        CHECK.refused(x, "again", x.recant(0), 7);
        CHECK.is("the fee is lost", x.told(11), 6);
        CHECK.is("it can be sworn anew", x.swear(ANN, KID, INN, 1), 2);
        CHECK.refused(x, "no such", x.recant(3), 1);
        CHECK.refused(x, "no such below", x.recant(-1), 1);
    }

    private static void smallChanges() {
        OathTill x = town();
        CHECK.promise(28);
        CHECK.is("earn", x.earn(KID, 1), 10);
        for (int i = 0; i < 9; i++) {
            CHECK.is("earn more", x.earn(KID, 999), 1009 + 999 * i);
        }
        CHECK.refused(x, "above 9,999", x.earn(KID, 999), 7);
        CHECK.is("up to it", x.earn(KID, 998), 9999);
        CHECK.refused(x, "one more", x.earn(KID, 1), 7);
        CHECK.refused(x, "0", x.earn(ANN, 0), 1);
        CHECK.refused(x, "1000", x.earn(ANN, 1000), 1);
        CHECK.refused(x, "nobody", x.earn(5, 1), 1);
        CHECK.promise(30);
        CHECK.is("ride", x.ride(60), true);
        CHECK.is("speed", x.told(10), 60);
        CHECK.is("ride 0", x.ride(0), true);
        CHECK.refused(x, "ride 61", x.ride(61), 1);
        CHECK.refused(x, "ride -1", x.ride(-1), 1);
        CHECK.is("it stays", x.told(10), 0);
    }

    private static void fitsAndRoads() {
        OathTill x = town();
        CHECK.promise(31);
        x.swear(POPE, KID, INN, 0);
        x.swear(POPE, BEN, PORT, 0);
        x.swear(EVE, KID, PORT, 2);
        x.swear(EVE, KID, PORT, 3);
        CHECK.is("too far", x.fits(0, 2), 0);
        CHECK.is("far enough", x.fits(3, 0), 1);
        CHECK.is("unlike persons", x.fits(0, 1), 1);
        CHECK.is("itself", x.fits(0, 0), 1);
        CHECK.refused(x, "no such", x.fits(0, 4), 1);
        CHECK.refused(x, "no such first", x.fits(-1, 0), 1);
        CHECK.promise(32);
        CHECK.is("road", x.road(INN, MILL), 2);
        CHECK.is("road back", x.road(PORT, INN), 3);
        CHECK.is("the same", x.road(PORT, PORT), 0);
        x.ride(60);
        CHECK.is("1 at least", x.road(PORT, INN), 1);
        x.ride(0);
        CHECK.refused(x, "never", x.road(PORT, INN), 6);
        CHECK.is("the same by speed 0", x.road(INN, INN), 0);
        CHECK.refused(x, "no such", x.road(0, 3), 1);
        Check.court(x, "place a at 7;place b at 7;person p purse 99 bishop;speed 0;");
        CHECK.is("side by side", x.road(0, 1), 1);
        x.swear(0, 0, 0, 1);
        x.swear(0, 0, 1, 2);
        CHECK.is("side by side fit", x.fits(0, 1), 1);
        CHECK.is("all ways", x.ways(0, false), 256);
    }

    private static void whereabouts() {
        OathTill x = town();
        CHECK.promise(33);
        CHECK.is("in the hour", x.canBe(BEN, 3), 2);
        CHECK.is("an hour off", x.canBe(BEN, 4), 2);
        CHECK.is("two hours off", x.canBe(BEN, 1), 7);
        x.swear(POPE, BEN, PORT, 6);
        CHECK.is("by what stands, too", x.canBe(BEN, 5), 4 + 0);
        CHECK.is("between", x.canBe(BEN, 4), 2);
        x.swear(POPE, BEN, INN, 5);
        CHECK.is("both are void", x.canBe(BEN, 5), 7);
        CHECK.refused(x, "hour", x.canBe(BEN, 8), 1);
        CHECK.refused(x, "person", x.canBe(5, 0), 1);
        CHECK.promise(34);
        x.ride(12);
        CHECK.is("of nothing known: inn and mill at will, or port", x.ways(KID, false), 256 + 1);
        x.ride(18);
        CHECK.is("mill to port, too", x.ways(KID, false), 1393);
        CHECK.is("by what is known: three hours into mill, four out of it", x.ways(BEN, false), 17 * 41);
        x.swear(EVE, BEN, PORT, 4);
        CHECK.is("with what stands", x.ways(BEN, true), 17 * 12);
        CHECK.is("without", x.ways(BEN, false), 697);
        x.swear(POPE, BEN, MILL, 4);
        CHECK.is("two places at once", x.ways(BEN, true), 0);
        CHECK.refused(x, "ways", x.ways(-1, true), 1);
        CHECK.promise(35);
        CHECK.is("reach", x.reach(BEN, 4, false), 7);
        CHECK.is("no ways", x.reach(BEN, 0, true), 0);
        x.recant(x.told(2) - 1);
        CHECK.is("by what stands", x.reach(BEN, 5, true), 6);
        CHECK.is("further", x.reach(BEN, 6, true), 7);
        CHECK.is("ahead", x.reach(BEN, 2, true), 7);
        CHECK.refused(x, "hour", x.reach(BEN, -1, true), 1);
        CHECK.refused(x, "person", x.reach(6, 0, true), 1);
        CHECK.is("no places, no ways", Check.court(x, "person p purse 0;"), 1);
        CHECK.is("0", x.ways(0, true), 0);
        CHECK.is("nowhere", x.canBe(0, 0), 0);
    }

    private static void mostTrue() {
        OathTill x = town();
        CHECK.promise(36);
        CHECK.is("of none", x.mostTrue(KID), 0);
        CHECK.promise(37);
        CHECK.is("the empty set", x.mostTrueSet(KID), 0);
        x.ride(60);
        x.swear(POPE, KID, INN, 0);
        x.swear(EVE, KID, PORT, 0);
        x.swear(BEN, KID, MILL, 1);
        x.swear(KID, KID, PORT, 2);
        x.ride(10);
        CHECK.promise(36);
        CHECK.is("most", x.mostTrue(KID), 2);
        CHECK.promise(37);
        CHECK.is("the least set", x.mostTrueSet(KID), 2 + 8);
        x.ride(15);
        CHECK.is("the first and third, the least", x.mostTrueSet(KID), 1 + 4);
        x.recant(0);
        CHECK.is("without what does not stand", x.mostTrueSet(KID), 2 + 8);
        CHECK.refused(x, "set", x.mostTrueSet(5), 1);
        CHECK.promise(36);
        CHECK.refused(x, "most", x.mostTrue(-1), 1);
    }

    private static void clashesAndDoubt() {
        OathTill x = town();
        CHECK.promise(38);
        x.ride(60);
        x.swear(POPE, KID, INN, 0);
        x.swear(EVE, KID, PORT, 0);
        x.swear(BEN, KID, MILL, 1);
        x.swear(KID, KID, PORT, 2);
        CHECK.is("of one hour", x.clashes(KID), 1);
        x.ride(10);
        CHECK.is("by speed", x.clashes(KID), 1 + 2 + 1 + 1);
        CHECK.is("of another", x.clashes(BEN), 0);
        CHECK.refused(x, "clashes", x.clashes(5), 1);
        CHECK.promise(39);
        CHECK.is("doubt", x.doubt(KID), 1);
        CHECK.is("no doubt", x.doubt(BEN), 0);
        CHECK.refused(x, "doubt", x.doubt(-1), 1);
        CHECK.promise(40);
        CHECK.is("of several the first", x.believed(KID, 0), INN);
        x.ride(60);
        CHECK.is("one more says port", x.swear(BEN, KID, PORT, 0), 4);
        CHECK.is("the most", x.believed(KID, 0), PORT);
        CHECK.refused(x, "none does", x.believed(KID, 5), 6);
        CHECK.refused(x, "hour", x.believed(KID, 8), 1);
        CHECK.refused(x, "person", x.believed(5, 0), 1);
        CHECK.promise(48);
        CHECK.is("doubted", x.doubted(), KID);
        x.find(KID, PORT, 0);
        CHECK.refused(x, "nobody is", x.doubted(), 6);
        CHECK.promise(40);
        CHECK.is("what is left", x.believed(KID, 0), PORT);
    }

    private static void alibis() {
        OathTill x = town();
        CHECK.promise(42);
        CHECK.refused(x, "none yet", x.alibiBy(0), 6);
        CHECK.promise(41);
        CHECK.is("the bishop's", x.alibi(KID, INN, 1, 1), 0);
        CHECK.promise(42);
        CHECK.is("the first other place", x.alibiBy(0), MILL);
        CHECK.is("by the bishop", x.alibiBy(1), 8);
        CHECK.promise(41);
        CHECK.is("with one more", x.alibi(KID, INN, 1, 2), 6);
        CHECK.is("the least set", x.alibiBy(1), 1 + 8);
        CHECK.is("the twins", x.alibi(KID, MILL, 1, 3), 9);
        CHECK.is("place", x.alibiBy(0), INN);
        CHECK.is("the least set", x.alibiBy(1), 1 + 2 + 8);
        CHECK.refused(x, "ann and eve know each other", x.alibi(KID, INN, 1, 5), 6);
        CHECK.is("four", x.alibi(KID, INN, 1, 4), 15);
        CHECK.is("with the kid", x.alibiBy(1), 1 + 2 + 4 + 8);
        CHECK.refused(x, "six", x.alibi(KID, INN, 1, 6), 6);
        CHECK.is("the latest with 0", x.alibiBy(1), 1 + 2 + 4 + 8);
        CHECK.refused(x, "of what is known", x.alibi(BEN, MILL, 3, 1), 6);
        CHECK.is("true", x.alibi(BEN, INN, 3, 5), 0);
        CHECK.is("everyone", x.alibiBy(1), 31);
        x.swear(POPE, KID, INN, 0);
        CHECK.refused(x, "mill and port do not fit", x.alibi(KID, INN, 1, 1), 6);
        CHECK.is("inn does", x.alibi(KID, MILL, 1, 1), 0);
        CHECK.refused(x, "n 0", x.alibi(KID, INN, 1, 0), 1);
        CHECK.refused(x, "n 7", x.alibi(KID, INN, 1, 7), 1);
        CHECK.refused(x, "person", x.alibi(5, INN, 1, 1), 1);
        CHECK.refused(x, "place", x.alibi(KID, 3, 1, 1), 1);
        CHECK.refused(x, "hour", x.alibi(KID, INN, 8, 1), 1);
        CHECK.is("nothing came of it", x.told(2), 1);
        CHECK.promise(42);
        CHECK.refused(x, "what", x.alibiBy(2), 1);
        CHECK.refused(x, "what below", x.alibiBy(-1), 1);
    }

    private static void calls() {
        OathTill x = town();
        CHECK.promise(44);
        CHECK.refused(x, "none yet", x.callBy(0), 6);
        CHECK.promise(43);
        CHECK.is("none to void: the least fee, the true one", x.call(EVE, BEN), 0);
        CHECK.promise(44);
        CHECK.is("place", x.callBy(0), MILL);
        CHECK.is("hour", x.callBy(1), 3);
        CHECK.is("fee", x.callBy(2), 0);
        CHECK.promise(43);
        CHECK.is("the first hour and place", x.call(EVE, KID), 0);
        CHECK.is("place", x.callBy(0), INN);
        CHECK.is("hour", x.callBy(1), 0);
        CHECK.is("fee", x.callBy(2), 6);
        x.ride(60);
        x.swear(POPE, KID, INN, 4);
        x.swear(BEN, KID, INN, 5);
        x.swear(ANN, KID, PORT, 6);
        x.ride(10);
        CHECK.is("all of others", x.call(KID, KID), 3);
        CHECK.is("place", x.callBy(0), MILL);
        CHECK.is("hour", x.callBy(1), 5);
        CHECK.is("fee", x.callBy(2), 9);
        CHECK.is("not its own", x.call(POPE, KID), 1);
        CHECK.is("place", x.callBy(0), PORT);
        CHECK.is("hour", x.callBy(1), 3);
        CHECK.is("nothing came of it", x.told(3), 3);
        CHECK.refused(x, "eve can't", x.call(EVE, KID), 6);
        CHECK.is("the latest with 0", x.callBy(2), 0);
        CHECK.refused(x, "witness", x.call(5, KID), 1);
        CHECK.refused(x, "person", x.call(KID, -1), 1);
        CHECK.promise(44);
        CHECK.refused(x, "what", x.callBy(3), 1);
        CHECK.refused(x, "what below", x.callBy(-1), 1);
    }

    private static void sayableAndDearest() {
        OathTill x = town();
        CHECK.promise(45);
        CHECK.is("all but two of hour 3", x.sayable(EVE, BEN), 22);
        CHECK.is("all", x.sayable(EVE, KID), 24);
        CHECK.promise(46);
        CHECK.is("dearest", x.dearest(EVE, BEN), 6);
        CHECK.is("a bishop's", x.dearest(POPE, BEN), 0);
        x.swear(POPE, BEN, INN, 1);
        CHECK.is("gainsaid", x.dearest(EVE, BEN), 9);
        CHECK.is("what the purse can bear", x.dearest(KID, BEN), 9);
        x.swear(KID, KID, INN, 1);
        CHECK.is("of the true ones alone", x.dearest(KID, BEN), 0);
        CHECK.promise(45);
        CHECK.is("the true one", x.sayable(KID, BEN), 1);
        CHECK.is("none", x.sayable(KID, EVE), 0);
        CHECK.is("status", x.status(), 0);
        CHECK.promise(46);
        CHECK.refused(x, "none can be", x.dearest(KID, EVE), 6);
        CHECK.refused(x, "witness", x.dearest(5, EVE), 1);
        CHECK.promise(45);
        CHECK.refused(x, "person", x.sayable(KID, 5), 1);
    }

    private static void liars() {
        OathTill x = town();
        CHECK.promise(47);
        CHECK.refused(x, "nobody", x.liar(), 6);
        x.swear(ANN, BEN, MILL, 3);
        CHECK.refused(x, "who says what is true is none", x.liar(), 6);
        x.swear(EVE, KID, INN, 1);
        x.swear(BEN, KID, INN, 1);
        CHECK.is("of several the first", x.liar(), BEN);
        x.swear(EVE, KID, INN, 2);
        CHECK.is("the most", x.liar(), EVE);
        CHECK.promise(51);
        CHECK.is("liars", x.liars(KID), 2 + 16);
        CHECK.is("of another", x.liars(BEN), 0);
        x.recant(2);
        CHECK.is("that stand", x.liars(KID), 16);
        CHECK.refused(x, "liars", x.liars(5), 1);
        CHECK.promise(48);
        CHECK.refused(x, "nobody is", x.doubted(), 6);
        x.ride(60);
        x.swear(POPE, KID, MILL, 1);
        CHECK.is("doubted", x.doubted(), KID);
        x.swear(POPE, ANN, INN, 4);
        x.swear(EVE, ANN, MILL, 4);
        CHECK.is("of several the first", x.doubted(), ANN);
    }

    private static void keptAndWord() {
        OathTill x = town();
        CHECK.promise(49);
        CHECK.refused(x, "none paid", x.kept(), 6);
        x.swear(POPE, KID, INN, 1);
        CHECK.refused(x, "a bishop pays none", x.kept(), 6);
        x.swear(EVE, KID, INN, 1);
        x.swear(EVE, KID, INN, 2);
        x.swear(EVE, KID, INN, 3);
        x.find(KID, INN, 3);
        CHECK.is("kept", x.kept(), true);
        CHECK.is("top", x.top(), 2);
        CHECK.is("bottom", x.bottom(), 3);
        CHECK.promise(50);
        x.swear(POPE, KID, PORT, 2);
        CHECK.is("true", x.word(EVE, 0), 1);
        CHECK.is("not true", x.word(EVE, 1), 1);
        CHECK.is("void", x.word(EVE, 2), 1);
        CHECK.is("the bishop's void", x.word(POPE, 2), 2);
        CHECK.is("of none", x.word(KID, 1), 0);
        CHECK.refused(x, "what", x.word(EVE, 3), 1);
        CHECK.refused(x, "what below", x.word(EVE, -1), 1);
        CHECK.refused(x, "witness", x.word(5, 0), 1);
    }

    private static void bids(OathTill x, long... bids) {
        x.tray(0, 3, bids.length);
        for (int i = 0; i < bids.length; i++) {
            x.write(0, i, bids[i]);
        }
    }

    private static void auctions() {
        OathTill x = new OathTill();
        CHECK.promise(52);
        CHECK.refused(x, "missing", x.auction(0, 1), 2);
        bids(x, 5, 9, 7, 9, -1, 1000000);
        CHECK.is("who bids the most", x.auction(0, 3), 1);
        CHECK.promise(53);
        CHECK.is("for the second bid", x.hammer(0, 3), 7);
        CHECK.is("0 without", x.hammer(0, 1), 0);
        CHECK.promise(52);
        CHECK.is("alone", x.auction(0, 1), 0);
        CHECK.refused(x, "dead heat", x.auction(0, 4), 6);
        CHECK.promise(53);
        CHECK.is("what both bid", x.hammer(0, 4), 9);
        CHECK.refused(x, "below 0", x.hammer(0, 5), 5);
        CHECK.refused(x, "n 0", x.hammer(0, 0), 1);
        CHECK.refused(x, "too few", x.hammer(0, 7), 3);
        CHECK.refused(x, "missing", x.hammer(1, 7), 2);
        CHECK.promise(52);
        CHECK.refused(x, "below 0", x.auction(0, 5), 5);
        x.write(0, 4, 0);
        CHECK.refused(x, "above 999,999", x.auction(0, 6), 5);
        x.write(0, 5, 999999);
        CHECK.is("999,999", x.auction(0, 6), 5);
        CHECK.refused(x, "n 0", x.auction(0, 0), 1);
        CHECK.refused(x, "n 61 of a missing one", x.auction(1, 61), 1);
        CHECK.refused(x, "tray 4", x.auction(4, 1), 1);
        CHECK.refused(x, "too few ahead of a wrong one", x.auction(0, 7), 3);
        bids(x, 0, 0);
        CHECK.refused(x, "two bid nothing", x.auction(0, 2), 6);
        CHECK.is("one bids nothing", x.auction(0, 1), 0);
        CHECK.is("for nothing", x.hammer(0, 2), 0);
        bids(x, 9, 4, 4);
        CHECK.is("two second ones", x.auction(0, 3), 0);
        CHECK.is("their bid", x.hammer(0, 3), 4);
    }

    private static void living() {
        OathTill x = town();
        CHECK.promise(55);
        CHECK.refused(x, "none yet", x.lived(0), 6);
        CHECK.promise(54);
        CHECK.refused(x, "no trials", x.live(0), 6);
        Check.trials(x, "swear ann says kid in inn hour 1;swear eve says kid in inn hour 1;recant ann;recant ann;"
            + "swear eve says kid in inn hour 1;find kid in inn hour 1;when stands kid in inn hour 1;"
            + "swear pope says kid in mill hour 5;end;when till>6;stop;end;when purse ann=44;"
            + "loop 3;recant eve;end;end;stop;recant ann;");
        CHECK.refused(x, "seed", x.live(10000), 1);
        CHECK.refused(x, "seed below", x.live(-1), 1);
        // 7 up to the when, 1 in it, the second when, the third, the loop, three times, stop
        CHECK.is("steps", x.live(9999), 7 + 1 + 1 + 1 + 1 + 3 + 1);
        CHECK.promise(55);
        CHECK.is("missed: eve, ann, eve twice", x.lived(0), 4);
        CHECK.is("sworn", x.lived(1), 3);
        CHECK.is("void", x.lived(2), 0);
        CHECK.is("fees paid", x.lived(3), 12);
        CHECK.is("none left", x.lived(4), 0);
        CHECK.refused(x, "what", x.lived(5), 1);
        CHECK.refused(x, "what below", x.lived(-1), 1);
        CHECK.promise(54);
        CHECK.is("all is as it is then", x.told(2), 3);
        CHECK.is("till", x.told(11), 6);
        OathTill y = town();
        Check.trials(y, "any eve says kid;any eve says kid;any kid says eve;any kid says eve;");
        CHECK.is("draws", y.live(7), 4);
        // s: 31820, 27881 (the second by 21); s by 8: 3977 by 24 is 17, 3485 ..
        int s = (7 * 2953 + 11149) % 65536;
        int spot = s / 8 % 24;
        CHECK.is("hour", y.oath(0, 3), spot / 3);
        CHECK.is("place", y.oath(0, 2), spot % 3);
        CHECK.is("a second of another hour", y.oath(1, 3) != y.oath(0, 3), true);
        CHECK.promise(55);
        CHECK.is("the kid's second is missed", y.lived(0), 1);
    }

    private static void livingLimits() {
        OathTill x = town();
        CHECK.promise(54);
        Check.trials(x, "loop 99;recant ann;recant ann;recant ann;end;");
        CHECK.is("298", x.live(0), 298);
        CHECK.promise(55);
        CHECK.is("none left", x.lived(4), 0);
        Check.trials(x, "loop 99;recant ann;recant ann;recant ann;end;recant ann;recant ann;");
        CHECK.is("300", x.live(0), 300);
        CHECK.is("none left of 300", x.lived(4), 0);
        CHECK.is("all missed", x.lived(0), 299);
        Check.trials(x, "loop 99;recant ann;recant ann;recant ann;end;recant ann;recant ann;stop;");
        CHECK.is("300 of 301", x.live(0), 300);
        CHECK.is("one left", x.lived(4), 1);
        Check.trials(x, "loop 3;loop 99;loop 99;end;end;end;stop;");
        CHECK.is("a loop counts when it is come to from ahead", x.live(0), 300);
        CHECK.is("missed", x.lived(0), 0);
        CHECK.is("stop is left", x.lived(4), 1);
        Check.trials(x, "loop 2;loop 99;loop 99;end;end;end;stop;");
        CHECK.is("1 and 2 times 100 and 1", x.live(0), 202);
        Check.trials(x, "loop 2;when till=0;stop;end;end;");
        CHECK.is("stop", x.live(0), 3);
        CHECK.is("stop leaves none", x.lived(4), 0);
        Check.trials(x, "loop 2;when till>0;stop;end;end;");
        CHECK.is("a when that does not hold", x.live(0), 3);
    }

    private static void livedNow() {
        OathTill x = town();
        CHECK.promise(55);
        Check.trials(x, "swear eve says kid in inn hour 1;swear pope says kid in inn hour 2;");
        x.swear(ANN, BEN, INN, 1);
        x.mark();
        x.live(0);
        x.mark();
        CHECK.is("none void", x.lived(2), 0);
        x.find(KID, MILL, 1);
        CHECK.is("void now", x.lived(2), 1);
        x.find(BEN, MILL, 1);
        CHECK.is("of these alone", x.lived(2), 1);
        x.undo();
        CHECK.is("taken back", x.lived(2), 0);
        CHECK.is("but it was lived", x.lived(1), 2);
        x.find(KID, MILL, 1);
        x.undo();
        CHECK.is("they are gone", x.lived(2), 0);
        CHECK.is("fees paid", x.lived(3), 6);
    }

    private static void means() {
        OathTill x = town();
        CHECK.promise(56);
        CHECK.refused(x, "no trials", x.mean(0, 1), 6);
        Check.trials(x, "swear eve says kid in inn hour 1;any eve says kid;any eve says ben;");
        long sum = 0;
        for (int seed = 40; seed < 47; seed++) {
            x.mark();
            x.live(seed);
            sum += x.told(11);
            x.undo();
        }
        CHECK.is("mean", x.mean(40, 7), true);
        CHECK.is("the mean of the till", x.top() * 7, sum * x.bottom());
        CHECK.is("without a common divisor", x.bottom() == 1 || x.bottom() == 7, true);
        CHECK.is("all stays as it is", x.told(2), 0);
        CHECK.is("the purse, too", x.person(EVE, 0), 30);
        CHECK.is("lived tells the live() latest", x.lived(1) > 0, true);
        CHECK.refused(x, "seed", x.mean(-1, 1), 1);
        CHECK.refused(x, "many 0", x.mean(0, 0), 1);
        CHECK.refused(x, "many 21", x.mean(0, 21), 1);
        CHECK.refused(x, "the last", x.mean(9981, 20), 1);
        CHECK.refused(x, "seed above", x.mean(10000, 1), 1);
        CHECK.is("the last is 9,999", x.mean(9980, 20), true);
        Check.trials(x, "swear eve says kid in inn hour 1;");
        CHECK.is("mean 6", x.mean(0, 20), true);
        CHECK.is("top", x.top(), 6);
        CHECK.is("bottom", x.bottom(), 1);
        Check.trials(x, "");
        CHECK.is("mean 0", x.mean(0, 20), true);
        CHECK.is("top", x.top(), 0);
        CHECK.is("bottom", x.bottom(), 1);
    }

    private static void marks() {
        OathTill x = town();
        CHECK.promise(57);
        CHECK.is("mark", x.mark(), 1);
        x.swear(ANN, KID, INN, 1);
        Check.trials(x, "stop;");
        CHECK.is("a second", x.mark(), 2);
        x.meet(ANN, BEN);
        x.ride(3);
        x.earn(ANN, 5);
        x.find(KID, INN, 1);
        CHECK.is("a third", x.mark(), 3);
        CHECK.refused(x, "one too many", x.mark(), 4);
        Check.court(x, "place a at 1;");
        x.tray(0, 0, 1);
        CHECK.promise(58);
        CHECK.is("undo the court", x.undo(), 2);
        CHECK.is("five again", x.told(1), 5);
        CHECK.is("refunded", x.told(6), 1);
        CHECK.is("speed", x.told(10), 3);
        CHECK.is("known", x.known(KID, 1), INN);
        CHECK.is("friends", x.knows(ANN, BEN), 1);
        CHECK.is("purse", x.person(ANN, 0), 55);
        CHECK.is("trays stay", x.read(0, 0), 0);
        CHECK.is("status", x.status(), 0);
        CHECK.is("undo the rest", x.undo(), 1);
        CHECK.is("not refunded", x.told(6), 0);
        CHECK.is("speed", x.told(10), 10);
        CHECK.refused(x, "not known", x.known(KID, 1), 6);
        CHECK.is("no friends", x.knows(ANN, BEN), 0);
        CHECK.is("purse", x.person(ANN, 0), 44);
        CHECK.is("till", x.told(11), 6);
        CHECK.is("trials", x.live(0), 1);
        CHECK.is("undo the first", x.undo(), 0);
        CHECK.is("no oaths", x.told(2), 0);
        CHECK.refused(x, "no trials", x.live(0), 6);
        CHECK.refused(x, "no mark", x.undo(), 6);
        CHECK.is("names are there again", Check.trials(x, "recant eve;"), 1);
    }
}
