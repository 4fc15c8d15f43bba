/** The boundary cases of ==== 4: TRIALS that are LIVED, draws, means, MARKS (promises 54 to 58). */
public final class TrialBoundaryTest {
    private static final Check CHECK = new Check();
    private static final String COURT =
        "place la at 0;place lb at 10;place lc at 60;person ann purse 99;person ben purse 0;person pope purse 0 bishop;base 4;more 1;";
    private static final int ANN = 0;
    private static final int BEN = 1;
    private static final int POPE = 2;

    public static void main(String[] args) {
        noTrials();
        seeds();
        theDraw();
        whatIsDrawnIsPaid();
        drawsByOne();
        missedWithoutADraw();
        missed();
        recantsTheLatest();
        tillTests();
        purseTests();
        standsTests();
        loops();
        nested();
        threeHundred();
        leftToBeDone();
        stops();
        goesOnFromWhereItIs();
        livedTold();
        livedNow();
        means();
        meanOfManySeeds();
        markLimits();
        takenBack();
        oathsComeBack();
        notTakenBack();
        markAndCourt();
        CHECK.end();
    }

    private static OathTill court() {
        OathTill x = new OathTill();
        CHECK.is("the court", Check.court(x, COURT), 3);
        return x;
    }

    private static OathTill trials(String text) {
        OathTill x = court();
        Check.trials(x, text);
        CHECK.is("status of " + text, x.status(), 0);
        return x;
    }

    /** "(1; 6: no TRIALS)": at first, behind a new COURT, behind undo(); an empty text is TRIALS of no STEP. */
    private static void noTrials() {
        CHECK.promise(54);
        OathTill x = court();
        CHECK.refused(x, "none at first", x.live(0), 6);
        CHECK.refused(x, "a wrong seed comes first", x.live(10000), 1);
        Check.trials(x, "stop");
        CHECK.refused(x, "a fault makes none", x.live(0), 6);
        Check.trials(x, "");
        CHECK.taken(x, "an empty text", x.live(0), 0);
        CHECK.promise(55);
        for (int what = 0; what < 5; what++) {
            CHECK.taken(x, "of which nothing is told " + what, x.lived(what), 0);
        }
        CHECK.promise(54);
        Check.court(x, COURT);
        CHECK.refused(x, "a new court has none", x.live(0), 6);
        x.mark();
        Check.trials(x, "stop;");
        CHECK.taken(x, "one", x.live(0), 1);
        x.undo();
        CHECK.refused(x, "taken back", x.live(0), 6);
    }

    /** "a seed (0 to 9,999)". */
    private static void seeds() {
        CHECK.promise(54);
        OathTill x = trials("stop;");
        CHECK.taken(x, "0", x.live(0), 1);
        CHECK.taken(x, "9,999", x.live(9999), 1);
        CHECK.refused(x, "-1", x.live(-1), 1);
        CHECK.refused(x, "10,000", x.live(10000), 1);
    }

    private static int next(int s) {
        return (s * 2953 + 11149) % 65536;
    }

    /** "the draw by n is the rest of s by 8, rounded down, by n"; "by HOUR, then by PLACE". */
    private static void theDraw() {
        CHECK.promise(54);
        for (int seed : new int[] {0, 1, 7, 8, 22, 123, 4567, 9998, 9999}) {
            OathTill x = trials("any pope says ann;any pope says ben;any pope says pope;");
            CHECK.taken(x, "three steps", x.live(seed), 3);
            int s = seed;
            for (int oath = 0; oath < 3; oath++) {
                s = next(s);
                int spot = s / 8 % 24;
                CHECK.taken(x, "hour by seed " + seed, x.oath(oath, 3), spot / 3);
                CHECK.taken(x, "place by seed " + seed, x.oath(oath, 2), spot % 3);
                CHECK.taken(x, "witness", x.oath(oath, 0), POPE);
                CHECK.taken(x, "person", x.oath(oath, 1), oath);
            }
        }
        OathTill y = court();
        for (int hour = 0; hour < 8; hour += 2) {
            y.swear(POPE, ANN, 0, hour);
        }
        Check.trials(y, "any pope says ann;any pope says ann;");
        y.live(5);
        int s = next(5);
        int spot = s / 8 % 12;
        CHECK.taken(y, "of four hours", y.oath(4, 3), 2 * (spot / 3) + 1);
        CHECK.taken(y, "place of it", y.oath(4, 2), spot % 3);
    }

    /** What is drawn costs what that one costs. */
    private static void whatIsDrawnIsPaid() {
        CHECK.promise(54);
        for (int seed = 0; seed < 40; seed++) {
            OathTill x = court();
            x.ride(60);
            for (int hour = 0; hour < 8; hour++) {
                x.swear(POPE, BEN, hour % 3, hour);
            }
            Check.trials(x, "any ann says ben;");
            int spot = next(seed) / 8 % 24;
            int fee = x.fee(ANN, BEN, spot % 3, spot / 3);
            CHECK.taken(x, "one step", x.live(seed), 1);
            CHECK.taken(x, "hour by seed " + seed, x.oath(8, 3), spot / 3);
            CHECK.taken(x, "place by seed " + seed, x.oath(8, 2), spot % 3);
            CHECK.taken(x, "fee by seed " + seed, x.oath(8, 4), fee);
            CHECK.taken(x, "till by seed " + seed, x.told(11), fee);
            CHECK.taken(x, "purse by seed " + seed, x.person(ANN, 0), 99 - fee);
            CHECK.taken(x, "lived by seed " + seed, x.lived(3), fee);
        }
    }

    private static OathTill oneLeft(String text) {
        OathTill x = new OathTill();
        Check.court(x, "place la at 0;person ann purse 0;person pope purse 0 bishop;was ann in la hour 6;");
        Check.trials(x, text);
        return x;
    }

    /** "by a draw by how many these are": by one, too. */
    private static void drawsByOne() {
        CHECK.promise(54);
        for (int seed = 0; seed < 40; seed++) {
            OathTill x = oneLeft("any ann says ann;any pope says ann;");
            CHECK.taken(x, "two steps", x.live(seed), 2);
            CHECK.taken(x, "the one that is left", x.oath(0, 3), 6);
            int s = next(next(seed));
            CHECK.taken(x, "the second draw by seed " + seed, x.oath(1, 3), s / 8 % 8);
        }
    }

    /** "MISSED, without a draw, if none is". */
    private static void missedWithoutADraw() {
        CHECK.promise(54);
        for (int seed = 0; seed < 40; seed++) {
            OathTill x = oneLeft("any ann says pope;any pope says pope;");
            CHECK.taken(x, "two steps", x.live(seed), 2);
            CHECK.taken(x, "one missed", x.lived(0), 1);
            CHECK.taken(x, "the first draw by seed " + seed, x.oath(0, 3), next(seed) / 8 % 8);
        }
    }

    /** "What can't be is MISSED (find never is)." */
    private static void missed() {
        CHECK.promise(55);
        OathTill x = trials("swear ben says ben in la hour 0;any ben says ben;recant ben;find ben in la hour 0;find ben in la hour 0;"
            + "swear ann says ben in la hour 0;swear ann says ben in la hour 0;recant ann;recant ann;");
        CHECK.taken(x, "all are done", x.live(0), 9);
        CHECK.taken(x, "ben thrice, ann's second oath, her second recanting", x.lived(0), 5);
        CHECK.taken(x, "sworn", x.lived(1), 1);
        CHECK.taken(x, "void", x.lived(2), 0);
        CHECK.taken(x, "paid", x.lived(3), 0);
        CHECK.taken(x, "left", x.lived(4), 0);
        OathTill y = trials("loop 17;any pope says ann;any pope says ben;end;");
        CHECK.taken(y, "up to 16 oaths", y.live(1), 35);
        CHECK.taken(y, "sworn", y.lived(1), 16);
        CHECK.taken(y, "missed", y.lived(0), 18);
        CHECK.taken(y, "void ones can be sworn again", y.told(2), 16);
    }

    /** "recant: the latest OATH of that WITNESS that STANDS". */
    private static void recantsTheLatest() {
        CHECK.promise(54);
        OathTill x = court();
        x.swear(ANN, BEN, 0, 0);
        x.swear(POPE, BEN, 0, 0);
        x.swear(ANN, BEN, 0, 1);
        x.swear(ANN, BEN, 0, 2);
        x.recant(3);
        Check.trials(x, "recant ann;");
        x.live(0);
        CHECK.taken(x, "the latest that stands", x.oath(2, 5), 2);
        CHECK.taken(x, "not the first", x.oath(0, 5), 0);
        x.live(0);
        CHECK.taken(x, "then the first", x.oath(0, 5), 2);
        CHECK.taken(x, "not another's", x.oath(1, 5), 0);
        x.live(0);
        CHECK.taken(x, "then none", x.lived(0), 1);
    }

    private static void when(OathTill x, String test, boolean holds) {
        Check.trials(x, "when " + test + ";recant ben;end;");
        CHECK.taken(x, test, x.live(0), holds ? 2 : 1);
    }

    /** "when till": below, above, and just as much. */
    private static void tillTests() {
        CHECK.promise(54);
        OathTill x = court();
        when(x, "till < 0", false);
        when(x, "till > 0", false);
        when(x, "till = 0", true);
        when(x, "till < 1", true);
        x.swear(ANN, BEN, 0, 0);
        when(x, "till < 4", false);
        when(x, "till < 5", true);
        when(x, "till > 4", false);
        when(x, "till > 3", true);
        when(x, "till = 4", true);
        when(x, "till = 5", false);
        when(x, "till = 3", false);
        when(x, "till < 9999", true);
        when(x, "till = 9999", false);
    }

    private static void purseTests() {
        CHECK.promise(54);
        OathTill x = court();
        when(x, "purse ben < 0", false);
        when(x, "purse ben = 0", true);
        when(x, "purse ben > 0", false);
        when(x, "purse ann < 99", false);
        when(x, "purse ann < 100", true);
        when(x, "purse ann > 99", false);
        when(x, "purse ann > 98", true);
        when(x, "purse ann = 99", true);
        when(x, "purse ann = 98", false);
        for (int i = 0; i < 9; i++) {
            x.earn(ANN, 999);
        }
        x.earn(ANN, 909);
        when(x, "purse ann = 9999", true);
        when(x, "purse ann > 9999", false);
        when(x, "purse ann < 9999", false);
        when(x, "purse ann > 9998", true);
    }

    /** "stands: some OATH that STANDS says so". */
    private static void standsTests() {
        CHECK.promise(54);
        OathTill x = court();
        x.find(BEN, 0, 7);
        when(x, "stands ben in la hour 7", false);
        x.swear(ANN, BEN, 0, 7);
        when(x, "stands ben in la hour 7", true);
        when(x, "stands ben in lb hour 7", false);
        when(x, "stands ben in la hour 6", false);
        when(x, "stands ann in la hour 7", false);
        x.swear(POPE, BEN, 0, 7);
        when(x, "stands ben in la hour 7", true);
        x.recant(0);
        when(x, "stands ben in la hour 7", true);
        x.recant(1);
        when(x, "stands ben in la hour 7", false);
    }

    private static void steps(String text, int done, int left) {
        OathTill x = trials(text);
        CHECK.promise(54);
        CHECK.taken(x, "steps of " + text, x.live(0), done);
        CHECK.promise(55);
        CHECK.taken(x, "left of " + text, x.lived(4), left);
    }

    /** "loop n (1 to 99): as often"; "when, loop count as one each time they are come to from ahead; end does not". */
    private static void loops() {
        steps("loop 1;end;", 1, 0);
        steps("loop 99;end;", 1, 0);
        steps("loop 1;recant ben;end;", 2, 0);
        steps("loop 2;recant ben;end;", 3, 0);
        steps("loop 99;recant ben;end;", 100, 0);
        steps("loop 3;recant ben;recant ben;end;recant ben;", 8, 0);
        steps("when till=0;end;", 1, 0);
        steps("when till>0;end;", 1, 0);
        steps("when till>0;recant ben;loop 5;recant ben;end;end;recant ben;", 2, 0);
        steps("loop 4;when till=0;recant ben;end;end;", 9, 0);
        steps("loop 4;when till>0;recant ben;end;end;", 5, 0);
    }

    private static void nested() {
        steps("loop 2;loop 3;recant ben;end;end;", 1 + 2 * (1 + 3), 0);
        steps("loop 2;loop 3;loop 4;recant ben;end;end;end;", 1 + 2 * (1 + 3 * (1 + 4)), 0);
        steps("loop 2;loop 3;end;loop 2;recant ben;end;end;", 1 + 2 * (1 + 1 + 2), 0);
        steps("loop 2;loop 3;loop 4;end;end;end;", 1 + 2 * (1 + 3), 0);
        steps("when till=0;loop 2;when till=0;recant ben;end;end;end;", 1 + 1 + 2 * 2, 0);
        steps("loop 5;loop 5;loop 5;recant ben;end;end;end;", 1 + 5 * (1 + 5 * (1 + 5)), 0);
    }

    /** "At most 300 STEPS". */
    private static void threeHundred() {
        steps("loop 99;recant ben;recant ben;recant ben;end;", 298, 0);
        steps("loop 99;recant ben;recant ben;recant ben;end;recant ben;", 299, 0);
        steps("loop 99;recant ben;recant ben;recant ben;end;recant ben;recant ben;", 300, 0);
        steps("loop 99;recant ben;recant ben;recant ben;end;recant ben;recant ben;recant ben;", 300, 1);
        steps("loop 99;loop 99;loop 99;recant ben;end;end;end;", 300, 1);
        // at 300 inside of what is over: ends are none
        steps("recant ben;loop 1;loop 99;recant ben;recant ben;recant ben;end;end;", 300, 0);
        steps("recant ben;loop 1;when till=0;loop 98;recant ben;recant ben;recant ben;end;recant ben;recant ben;end;end;", 300, 0);
        steps("recant ben;loop 2;loop 99;recant ben;recant ben;recant ben;end;end;", 300, 1);
        steps("recant ben;loop 1;loop 99;recant ben;recant ben;recant ben;end;end;stop;", 300, 1);
        steps("recant ben;loop 1;loop 99;recant ben;recant ben;recant ben;end;end;when till>0;end;", 300, 1);
        steps("loop 99;recant ben;recant ben;recant ben;end;recant ben;stop;", 300, 0);
        steps("loop 99;recant ben;recant ben;recant ben;end;recant ben;loop 9;recant ben;end;", 300, 1);
        steps("loop 99;recant ben;recant ben;recant ben;end;recant ben;loop 9;end;", 300, 0);
        steps("loop 99;recant ben;recant ben;recant ben;end;recant ben;when till>0;recant ben;end;", 300, 0);
        steps("loop 99;recant ben;recant ben;recant ben;end;recant ben;when till=0;recant ben;end;", 300, 1);
    }

    /** What is left is not done: the 301st would swear. */
    private static void leftToBeDone() {
        CHECK.promise(54);
        String ahead = "loop 99;recant ben;recant ben;recant ben;end;recant ben;";
        OathTill x = trials(ahead + "swear ann says ben in la hour 0;swear ann says ben in la hour 1;");
        CHECK.taken(x, "300", x.live(0), 300);
        CHECK.taken(x, "the 300th is done", x.told(2), 1);
        CHECK.promise(55);
        CHECK.taken(x, "missed", x.lived(0), 298);
        CHECK.taken(x, "sworn", x.lived(1), 1);
        CHECK.taken(x, "one is left", x.lived(4), 1);
        OathTill y = trials(ahead + "swear ann says ben in la hour 0;");
        CHECK.taken(y, "all are done", y.live(0), 300);
        CHECK.taken(y, "none is left", y.lived(4), 0);
    }

    private static void stops() {
        steps("stop;", 1, 0);
        steps("stop;recant ben;", 1, 0);
        steps("recant ben;stop;recant ben;", 2, 0);
        steps("loop 9;recant ben;stop;end;recant ben;", 3, 0);
        steps("when till>0;stop;end;recant ben;", 2, 0);
        steps("when till=0;stop;end;recant ben;", 2, 0);
    }

    /** "all is as it is then": what was LIVED stays, and the next goes on from it. */
    private static void goesOnFromWhereItIs() {
        CHECK.promise(54);
        OathTill x = trials("swear ann says ben in la hour 0;recant ann;");
        for (int i = 1; i <= 16; i++) {
            CHECK.taken(x, "again", x.live(0), 2);
            CHECK.taken(x, "an oath more", x.told(2), i);
            CHECK.taken(x, "a fee more", x.told(11), 4 * i);
        }
        CHECK.taken(x, "with 16", x.live(0), 2);
        CHECK.taken(x, "both are missed", x.lived(0), 2);
        CHECK.taken(x, "none more", x.told(2), 16);
        CHECK.taken(x, "the purse", x.person(ANN, 0), 99 - 64);
    }

    /** "Of live() latest with STATUS 0 .. (1; 6: there was none)". */
    private static void livedTold() {
        CHECK.promise(55);
        OathTill x = court();
        CHECK.refused(x, "none", x.lived(0), 6);
        CHECK.refused(x, "none left", x.lived(4), 6);
        x.live(0);
        CHECK.refused(x, "refused", x.lived(0), 6);
        Check.trials(x, "swear ann says ben in la hour 0;swear ann says ben in lc hour 1;find ben in la hour 2;"
            + "swear ann says ben in la hour 2;swear ann says ben in la hour 3;find ben in la hour 3;");
        CHECK.taken(x, "live", x.live(0), 6);
        CHECK.taken(x, "missed", x.lived(0), 0);
        CHECK.taken(x, "sworn", x.lived(1), 4);
        CHECK.taken(x, "void", x.lived(2), 2);
        CHECK.taken(x, "paid, with what was refunded", x.lived(3), 12);
        CHECK.taken(x, "left", x.lived(4), 0);
        CHECK.refused(x, "what 5", x.lived(5), 1);
        CHECK.refused(x, "what -1", x.lived(-1), 1);
        x.live(-1);
        x.live(10000);
        CHECK.taken(x, "refused ones leave it", x.lived(1), 4);
        x.mean(0, 20);
        CHECK.taken(x, "so does mean", x.lived(1), 4);
        Check.trials(x, "stop;");
        CHECK.taken(x, "so do new trials", x.lived(1), 4);
        x.live(0);
        CHECK.taken(x, "the latest counts alone", x.lived(1), 0);
        CHECK.taken(x, "nothing paid", x.lived(3), 0);
        CHECK.taken(x, "nothing void", x.lived(2), 0);
        Check.court(x, "");
        CHECK.taken(x, "a new court leaves it", x.lived(1), 0);
        CHECK.refused(x, "refused: no trials", x.live(0), 6);
        CHECK.taken(x, "still told", x.lived(4), 0);
    }

    /** "of these VOID now". */
    private static void livedNow() {
        CHECK.promise(55);
        OathTill x = court();
        x.swear(ANN, BEN, 0, 5);
        Check.trials(x, "swear ann says ben in la hour 0;swear ann says ben in la hour 1;");
        x.live(0);
        CHECK.taken(x, "none", x.lived(2), 0);
        x.find(BEN, 1, 0);
        CHECK.taken(x, "one", x.lived(2), 1);
        x.find(BEN, 1, 5);
        CHECK.taken(x, "not the one from ahead", x.lived(2), 1);
        x.recant(2);
        CHECK.taken(x, "recanted is not void", x.lived(2), 1);
        CHECK.taken(x, "three were void or recanted", x.told(5) + x.told(7), 3);
    }

    /** "by so many seeds (1 to 20) from one on (1: the last above 9,999, too; 6: no TRIALS); all stays as it is". */
    private static void means() {
        CHECK.promise(56);
        OathTill x = court();
        CHECK.refused(x, "no trials", x.mean(0, 1), 6);
        CHECK.refused(x, "a wrong seed comes first", x.mean(-1, 1), 1);
        CHECK.refused(x, "a wrong many comes first", x.mean(0, 0), 1);
        Check.trials(x, "swear ann says ben in la hour 0;");
        CHECK.is("by 1", x.mean(0, 1), true);
        CHECK.is("4", x.top(), 4);
        CHECK.is("by 1 of one seed", x.bottom(), 1);
        CHECK.is("by 20", x.mean(0, 20), true);
        CHECK.is("4 of twenty seeds", x.top(), 4);
        CHECK.refused(x, "by 0", x.mean(0, 0), 1);
        CHECK.refused(x, "by 21", x.mean(0, 21), 1);
        CHECK.is("the last seed", x.mean(9999, 1), true);
        CHECK.refused(x, "one behind it", x.mean(9999, 2), 1);
        CHECK.is("the last twenty", x.mean(9980, 20), true);
        CHECK.refused(x, "one further", x.mean(9981, 20), 1);
        CHECK.refused(x, "10,000", x.mean(10000, 1), 1);
        CHECK.refused(x, "-1", x.mean(-1, 2), 1);
        CHECK.is("a refused one leaves the fraction", x.top(), 4);
        CHECK.taken(x, "nothing was sworn", x.told(2), 0);
        CHECK.taken(x, "nothing was paid", x.person(ANN, 0), 99);
        CHECK.refused(x, "nothing was lived", x.lived(0), 6);
        Check.trials(x, "");
        CHECK.is("of no step", x.mean(0, 3), true);
        CHECK.is("0", x.top(), 0);
        CHECK.is("0 is 0 by 1", x.bottom(), 1);
        x.swear(ANN, BEN, 0, 0);
        CHECK.is("the till as it is", x.mean(0, 3), true);
        CHECK.is("4 without a step", x.top(), 4);
        CHECK.is("by 1 without a step", x.bottom(), 1);
    }

    private static int tillOf(String text, int seed) {
        OathTill x = trials(text);
        x.live(seed);
        return x.told(11);
    }

    /** Each seed begins from what is now, and FRACTIONS have no common divisor. */
    private static void meanOfManySeeds() {
        CHECK.promise(56);
        String text = "any ann says ben;any ann says ben;any pope says ben;any ann says ben;find ben in la hour 3;";
        OathTill x = trials(text);
        for (int many : new int[] {1, 2, 3, 4, 6, 10, 20}) {
            long sum = 0;
            for (int seed = 70; seed < 70 + many; seed++) {
                sum += tillOf(text, seed);
            }
            CHECK.is("mean of " + many, x.mean(70, many), true);
            long divisor = many;
            while (sum % divisor != 0 || many % divisor != 0) {
                divisor--;
            }
            CHECK.is("top of " + many, x.top(), sum / divisor);
            CHECK.is("bottom of " + many, x.bottom(), many / divisor);
        }
        CHECK.taken(x, "all stays as it is", x.told(2), 0);
        CHECK.refused(x, "nothing was found", x.known(BEN, 3), 6);
    }

    /** "MARKS, at most 3"; "how many there are (4)"; "how many there are left (6)". */
    private static void markLimits() {
        OathTill x = new OathTill();
        CHECK.promise(58);
        CHECK.refused(x, "none", x.undo(), 6);
        for (int round = 0; round < 2; round++) {
            CHECK.promise(57);
            for (int i = 1; i <= 3; i++) {
                CHECK.taken(x, "mark", x.mark(), i);
            }
            CHECK.refused(x, "a fourth", x.mark(), 4);
            CHECK.refused(x, "a fourth again", x.mark(), 4);
            CHECK.promise(58);
            CHECK.taken(x, "two left", x.undo(), 2);
            CHECK.promise(57);
            CHECK.taken(x, "a third again", x.mark(), 3);
            CHECK.promise(58);
            for (int i = 2; i >= 0; i--) {
                CHECK.taken(x, "undo", x.undo(), i);
            }
            CHECK.refused(x, "none left", x.undo(), 6);
        }
    }

    /** "the COURT with all that became of it, the TRIALS are kept as they are; all is taken back to the latest MARK". */
    private static void takenBack() {
        CHECK.promise(58);
        OathTill x = court();
        x.swear(ANN, BEN, 0, 0);
        x.swear(ANN, BEN, 0, 1);
        Check.trials(x, "recant ann;recant ann;stop;");
        x.mark();
        x.find(BEN, 0, 0);
        x.find(BEN, 1, 1);
        x.earn(BEN, 7);
        x.meet(ANN, BEN);
        x.ride(1);
        x.swear(POPE, POPE, 0, 0);
        Check.trials(x, "stop;");
        CHECK.taken(x, "all taken back", x.undo(), 0);
        int[] due = {3, 3, 2, 2, 2, 0, 0, 0, 4, 1, 10, 8};
        for (int what = 0; what < 12; what++) {
            CHECK.taken(x, "told " + what, x.told(what), due[what]);
        }
        CHECK.taken(x, "the purse", x.person(ANN, 0), 91);
        CHECK.taken(x, "another purse", x.person(BEN, 0), 0);
        CHECK.taken(x, "they do not know each other", x.knows(ANN, BEN), 0);
        CHECK.refused(x, "it is not known", x.known(BEN, 0), 6);
        CHECK.taken(x, "it is not refunded", x.oath(0, 6), 0);
        CHECK.taken(x, "it stands", x.oath(1, 5), 0);
        CHECK.taken(x, "the trials", x.live(0), 3);
        CHECK.taken(x, "both were there to recant", x.lived(0), 0);
        CHECK.refused(x, "the mark is gone", x.undo(), 6);
    }

    /** OATHS come back with all that is told of them, whatever was sworn in their place since. */
    private static void oathsComeBack() {
        CHECK.promise(58);
        OathTill x = court();
        Check.trials(x, "swear ann says ben in lb hour 3;");
        x.swear(ANN, BEN, 0, 7);
        x.find(BEN, 0, 7);
        x.live(0);
        x.mark();
        Check.court(x, "place la at 0;person a purse 99;person b purse 99;base 50;");
        x.swear(0, 0, 0, 0);
        x.swear(1, 0, 0, 1);
        x.recant(1);
        CHECK.taken(x, "undo", x.undo(), 0);
        int[][] due = {{ANN, BEN, 0, 7, 4, 0, 1, 1}, {ANN, BEN, 1, 3, 4, 0, 0, 0}};
        for (int oath = 0; oath < 2; oath++) {
            for (int what = 0; what < 8; what++) {
                CHECK.taken(x, "oath " + oath + " what " + what, x.oath(oath, what), due[oath][what]);
            }
        }
        CHECK.taken(x, "spent", x.person(ANN, 5), 4);
        x.kept();
        CHECK.is("kept", x.bottom(), 2);
        CHECK.promise(55);
        CHECK.taken(x, "none void", x.lived(2), 0);
        x.find(BEN, 0, 3);
        CHECK.taken(x, "the one that was lived is void", x.lived(2), 1);
        OathTill y = court();
        Check.trials(y, "swear ann says ben in lb hour 3;");
        y.mark();
        y.live(0);
        y.undo();
        y.swear(ANN, BEN, 1, 3);
        y.find(BEN, 0, 3);
        CHECK.taken(y, "void", y.told(5), 1);
        CHECK.taken(y, "but it was not sworn by live()", y.lived(2), 0);
    }

    /** TRAYS, the tape, the FRACTION, what fault(), lived(), alibiBy(), callBy() tell are no part of a COURT. */
    private static void notTakenBack() {
        CHECK.promise(58);
        OathTill x = court();
        Check.trials(x, "swear ann says ben in la hour 0;");
        x.mark();
        x.tray(0, 0, 1);
        x.write(0, 0, 9);
        x.live(0);
        x.kept();
        x.alibi(BEN, 0, 3, 1);
        x.call(ANN, BEN);
        Check.court(x, ";");
        x.feed(0, 0, 0, 0, 0);
        CHECK.taken(x, "undo", x.undo(), 0);
        CHECK.is("the tray", x.read(0, 0), 9);
        CHECK.is("the fraction", x.top(), 1);
        CHECK.is("the fault", x.fault(0), 2);
        CHECK.is("the tape", x.feed(0, 0, 0, 0, 0), 40);
        CHECK.taken(x, "what was lived", x.lived(1), 1);
        CHECK.taken(x, "the alibi", x.alibiBy(0), 1);
        CHECK.taken(x, "the call", x.callBy(1), 1);
        CHECK.taken(x, "the oaths are gone", x.told(2), 0);
    }

    /** A MARK outlives the COURT in which it was made, and keeps its NAMES. */
    private static void markAndCourt() {
        CHECK.promise(58);
        OathTill x = court();
        x.mark();
        CHECK.is("another court", Check.court(x, "place zz at 3;person yy purse 1;twins yy"), -1);
        CHECK.is("another court", Check.court(x, "place zz at 3;person yy purse 1;"), 1);
        x.mark();
        CHECK.is("an empty one", Check.court(x, ""), 0);
        CHECK.taken(x, "back to the second", x.undo(), 1);
        CHECK.taken(x, "one person", x.told(1), 1);
        CHECK.taken(x, "one place", x.mile(0), 3);
        CHECK.is("its names", Check.trials(x, "find yy in zz hour 0;"), 1);
        CHECK.taken(x, "back to the first", x.undo(), 0);
        CHECK.taken(x, "three persons", x.told(1), 3);
        CHECK.taken(x, "the last mile", x.mile(2), 60);
        CHECK.is("its names", Check.trials(x, "find pope in lc hour 7;"), 1);
        CHECK.refused(x, "the others are not", Check.trials(x, "find yy in zz hour 0;"), 9);
    }
}
