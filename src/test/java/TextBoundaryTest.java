/** The boundary cases of COURTS and TRIALS as texts: promises 10 to 19, and what "Terms" and ==== 4 say of TOKENS and FAULTS. */
public final class TextBoundaryTest {
    private static final Check CHECK = new Check();
    private static final String[] WORDS = {"place", "at", "person", "purse", "child", "bishop", "twins", "knows", "was", "in",
        "hour", "base", "more", "speed", "swear", "says", "find", "recant", "any", "when", "till", "stands", "loop", "end", "stop"};
    private static final String PEOPLE =
        "place inn at 0;place mill at 12;person ann purse 50;person ben purse 20;";

    public static void main(String[] args) {
        CHECK.promise(10);
        blanksAndTokens();
        bytesThatBeginNothing();
        numbers();
        names();
        wordsAreNoNames();
        limitsOfNumbers();
        limitsOfPlacesAndPersons();
        parts();
        partsWithinParts();
        namesToldAhead();
        twinsAndItself();
        ratesOnce();
        theFirstFault();
        theTextsEnd();
        whatTheTapeHas();
        aNewCourt();
        CHECK.promise(11);
        trialsTexts();
        trialsSteps();
        trialsDepth();
        trialsNumbers();
        trialsNames();
        trialsTests();
        trialsEnds();
        trialsLength();
        trialsOfAnotherCourt();
        faultIsTold();
        askedOfACourt();
        CHECK.end();
    }

    private static OathTill taken(String text, int persons) {
        OathTill x = new OathTill();
        CHECK.is("court " + text, Check.court(x, text), persons);
        CHECK.is("status of " + text, x.status(), 0);
        CHECK.is("no fault in " + text, x.fault(0), 0);
        CHECK.is("no place of a fault in " + text, x.fault(1), -1);
        return x;
    }

    private static void faulty(String text, int kind, int place) {
        OathTill x = new OathTill();
        CHECK.refused(x, "court " + text, Check.court(x, text), 9);
        CHECK.is("fault of " + text, x.fault(0), kind);
        CHECK.is("place of the fault of " + text, x.fault(1), place);
        CHECK.is("no person of " + text, x.told(1), 0);
    }

    private static OathTill people() {
        OathTill x = new OathTill();
        CHECK.is("the people", Check.court(x, PEOPLE), 2);
        return x;
    }

    private static OathTill trialsTaken(String text, int steps) {
        OathTill x = people();
        CHECK.is("trials " + text, Check.trials(x, text), steps);
        CHECK.is("status of " + text, x.status(), 0);
        CHECK.is("no fault in " + text, x.fault(0), 0);
        CHECK.is("no place of a fault in " + text, x.fault(1), -1);
        return x;
    }

    private static void trialsFaulty(String text, int kind, int place) {
        OathTill x = people();
        CHECK.refused(x, "trials " + text, Check.trials(x, text), 9);
        CHECK.is("fault of " + text, x.fault(0), kind);
        CHECK.is("place of the fault of " + text, x.fault(1), place);
        CHECK.refused(x, "no trials by " + text, x.live(0), 6);
    }

    // ---- COURTS

    /** "TOKENS, as long as they go, between them blanks (10, 32)". */
    private static void blanksAndTokens() {
        taken("", 0);
        taken(" ", 0);
        taken("\n", 0);
        CHECK.is("none needed beside signs and numbers", taken("base 7;more 8;", 0).told(9), 8);
        CHECK.is("a number ends where a letter begins", taken("person p purse 999child;", 1).person(0, 1), 1);
        CHECK.is("a word ends where a digit begins", taken("base7;", 0).told(8), 7);
        CHECK.is("many", taken("\n\n base \n 7 \n;\n ", 0).told(8), 7);
        faulty("ba se 7;", 2, 0);
        faulty("base 7 7;", 2, 7);
        faulty("basemore 7;", 2, 0);
        faulty("person p purse 9childbishop;", 2, 16);
    }

    /** "1 no TOKEN begins so": all bytes but blanks, small letters, digits and ; < > =. */
    private static void bytesThatBeginNothing() {
        for (int c = 0; c < 256; c++) {
            String text = "base 7;" + (char) c;
            boolean blank = c == 10 || c == 32;
            boolean letter = c >= 'a' && c <= 'z';
            boolean digit = c >= '0' && c <= '9';
            boolean sign = c == ';' || c == '<' || c == '>' || c == '=';
            if (blank) {
                taken(text, 0);
            } else {
                faulty(text, letter || digit || sign ? 2 : 1, 7);
            }
        }
        faulty("base\t7;", 1, 4);
        faulty("base\r\n7;", 1, 4);
        faulty("base 7" + (char) 0, 1, 6);
        faulty("bas" + (char) 200, 2, 0);
    }

    /** "NUMBERS (1 to 4 digits)"; "a NUMBER of 5 digits and more: at its first". */
    private static void numbers() {
        CHECK.is("1 digit", taken("base 9;", 0).told(8), 9);
        CHECK.is("4 digits", taken("base 0099;", 0).told(8), 99);
        CHECK.is("0000", taken("speed 0000;", 0).told(10), 0);
        faulty("base 00099;", 1, 5);
        faulty("base 000000000099;", 1, 5);
        faulty("base 99999999999999999999;", 1, 5);
        faulty("base 9999;", 4, 5);
        faulty("base 1 00099;", 1, 7);
        faulty("base 1 0099;", 2, 7);
        faulty("base 1;99999;", 1, 7);
        faulty("12345", 1, 0);
        faulty("1234", 2, 0);
        faulty("place 00001 at 5;", 1, 6);
        faulty("place 0001 at 5;", 2, 6);
    }

    /** "NAME: a WORD of 1 to 8 letters"; "a WORD of 9 letters and more where a NAME must stand: 2". */
    private static void names() {
        taken("place a at 0;place z at 0;place abcdefgh at 1;person zyxwvuts purse 1;", 1);
        faulty("place abcdefghi at 1;", 2, 6);
        faulty("place abcdefghijklmnopqrstuvwxyz at 1;", 2, 6);
        faulty("person abcdefghi purse 1;", 2, 7);
        // a NAME is not cut: what is alike in eight letters is no NAME told ahead
        faulty("person abcdefgh purse 1;knows abcdefghi abcdefgh;", 2, 30);
        faulty("person abcdefgh purse 1;person a purse 1;twins a abcdefghi;", 2, 49);
        CHECK.is("unlike in the last letter", taken("person abcdefgh purse 1;person abcdefgi purse 2;"
            + "knows abcdefgh abcdefgi;", 2).knows(0, 1), 1);
        CHECK.is("one is the other's beginning", taken("person a purse 1;person aa purse 2;person aaa purse 3;"
            + "knows aa aaa;", 3).knows(1, 2), 1);
        faulty("person a purse 1;person aa purse 2;knows a aaa;", 3, 43);
        faulty("place A at 1;", 1, 6);
        faulty("place a2 at 1;", 2, 7);
        faulty("place ; at 1;", 2, 6);
    }

    private static boolean isOneOf(String word) {
        for (String one : WORDS) {
            if (one.equals(word)) {
                return true;
            }
        }
        return false;
    }

    /** "that is none of place, at, .. stop". */
    private static void wordsAreNoNames() {
        for (String word : WORDS) {
            faulty("place " + word + " at 1;", 2, 6);
            faulty("person " + word + " purse 1;", 2, 7);
            faulty("person a purse 1;knows a " + word + ";", 2, 25);
            String longer = word + "x";
            taken("person " + longer + " purse 1;", 1);
            String shorter = word.substring(0, word.length() - 1);
            if (!isOneOf(shorter)) {
                taken("place " + shorter + " at 1;", 0);
            }
        }
        for (String word : WORDS) {
            boolean begins = "place person twins knows was base more speed ".contains(word + " ");
            OathTill x = new OathTill();
            CHECK.refused(x, word, Check.court(x, word), 9);
            CHECK.is("a word alone is a fault: " + word, x.fault(0), 2);
            CHECK.is("its place: " + word, x.fault(1), begins ? word.length() : 0);
        }
    }

    /** The last NUMBER that can be, and the first that can't, of each. */
    private static void limitsOfNumbers() {
        CHECK.is("mile 0", taken("place a at 0;", 0).mile(0), 0);
        CHECK.is("mile 60", taken("place a at 60;", 0).mile(0), 60);
        faulty("place a at 61;", 4, 11);
        faulty("place a at 9999;", 4, 11);
        CHECK.is("purse 0", taken("person a purse 0;", 1).person(0, 0), 0);
        CHECK.is("purse 999", taken("person a purse 999;", 1).person(0, 0), 999);
        faulty("person a purse 1000;", 4, 15);
        CHECK.is("base 0", taken("base 0;", 0).told(8), 0);
        CHECK.is("base 99", taken("base 99;", 0).told(8), 99);
        faulty("base 100;", 4, 5);
        CHECK.is("more 0", taken("more 0;", 0).told(9), 0);
        CHECK.is("more 99", taken("more 99;", 0).told(9), 99);
        faulty("more 100;", 4, 5);
        CHECK.is("speed 0", taken("speed 0;", 0).told(10), 0);
        CHECK.is("speed 60", taken("speed 60;", 0).told(10), 60);
        faulty("speed 61;", 4, 6);
        CHECK.is("hour 0", taken(PEOPLE + "was ann in mill hour 0;", 2).known(0, 0), 1);
        CHECK.is("hour 7", taken(PEOPLE + "was ann in mill hour 7;", 2).known(0, 7), 1);
        faulty(PEOPLE + "was ann in mill hour 8;", 4, PEOPLE.length() + 21);
        OathTill x = taken("place a at 1;", 0);
        CHECK.is("base without", x.told(8), 5);
        CHECK.is("more without", x.told(9), 2);
        CHECK.is("speed without", x.told(10), 10);
        CHECK.is("more of base alone", taken("base 9;", 0).told(9), 2);
        CHECK.is("speed of base alone", taken("base 9;", 0).told(10), 10);
        CHECK.is("base of speed alone", taken("speed 9;", 0).told(8), 5);
    }

    private static String places(int many) {
        StringBuilder b = new StringBuilder();
        for (int i = 0; i < many; i++) {
            b.append("place l").append((char) ('a' + i)).append(" at ").append(i * 12).append(";");
        }
        return b.toString();
    }

    private static String persons(int many) {
        StringBuilder b = new StringBuilder();
        for (int i = 0; i < many; i++) {
            b.append("person p").append((char) ('a' + i)).append(" purse ").append(i * 100).append(";");
        }
        return b.toString();
    }

    /** "PLACES, at most 5", "PERSONS, at most 6"; "6 a sixth place, a seventh person (at that WORD)". */
    private static void limitsOfPlacesAndPersons() {
        OathTill x = taken(places(5) + persons(6), 6);
        CHECK.is("five places", x.told(0), 5);
        CHECK.is("six persons", x.told(1), 6);
        CHECK.is("the last mile", x.mile(4), 48);
        CHECK.is("the last purse", x.person(5, 0), 500);
        CHECK.refused(x, "no sixth", x.mile(5), 1);
        CHECK.refused(x, "no seventh", x.person(6, 0), 1);
        faulty(places(5) + "place", 6, places(5).length());
        faulty(places(5) + "place la at 99;", 6, places(5).length());
        faulty(persons(6) + "person", 6, persons(6).length());
        faulty(persons(6) + "person 12345;", 6, persons(6).length());
        faulty(persons(6) + places(5) + "base 5 place", 2, persons(6).length() + places(5).length() + 7);
        CHECK.is("numbered as they stand", taken("person z purse 1;place y at 2;person a purse 3;place b at 4;", 2).mile(1), 4);
        CHECK.is("persons, too", taken("person z purse 1;place y at 2;person a purse 3;place b at 4;", 2).person(1, 0), 3);
        CHECK.is("the last twins", taken(persons(6) + "twins pe pf;", 6).person(5, 3), 4);
        CHECK.is("the last knows", taken(persons(6) + "knows pf pa;", 6).kin(0), 33);
    }

    /** The grammar of each PART: what is left out, and what is too much. */
    private static void parts() {
        CHECK.is("a bishop alone", taken("person a purse 1 bishop;", 1).person(0, 2), 1);
        CHECK.is("is no child", taken("person a purse 1 bishop;", 1).person(0, 1), 0);
        CHECK.is("a child alone", taken("person a purse 1 child;", 1).person(0, 2), 0);
        CHECK.is("both", taken("person a purse 1 child bishop;", 1).person(0, 2), 1);
        faulty("person a purse 1 bishop child;", 2, 24);
        faulty("person a purse 1 child child;", 2, 23);
        faulty("person a purse 1 bishop bishop;", 2, 24);
        faulty("person a child;", 2, 9);
        faulty("place at 1;", 2, 6);
        faulty("place a 1;", 2, 8);
        faulty("place a at;", 2, 10);
        faulty("place a at b;", 2, 11);
        faulty("place a at 1", 2, 12);
        faulty("place a at 1 child;", 2, 13);
        faulty("place a at 1 <;", 2, 13);
        faulty("place a at = 1;", 2, 11);
        faulty("twins ;", 2, 6);
        faulty(PEOPLE + "twins ann;", 2, PEOPLE.length() + 9);
        faulty(PEOPLE + "twins ann ben", 2, PEOPLE.length() + 13);
        faulty(PEOPLE + "knows ann;", 2, PEOPLE.length() + 9);
        faulty(PEOPLE + "knows ann ben ann;", 2, PEOPLE.length() + 14);
        faulty(PEOPLE + "was ann mill hour 1;", 2, PEOPLE.length() + 8);
        faulty(PEOPLE + "was ann in mill 1;", 2, PEOPLE.length() + 16);
        faulty(PEOPLE + "was ann in mill hour;", 2, PEOPLE.length() + 20);
        faulty(PEOPLE + "was ann in mill hour 1", 2, PEOPLE.length() + 22);
        faulty("base;", 2, 4);
        faulty("more =;", 2, 5);
        faulty("speed speed;", 2, 6);
        faulty(";", 2, 0);
        faulty("base 1;;", 2, 7);
        for (String step : new String[] {"swear", "any", "find", "recant", "when", "loop", "stop", "end", "till", "stands", "says"}) {
            faulty("base 1;" + step + ";", 2, 7);
        }
    }

    /** At each TOKEN of a PART a whole other PART, which can't stand there. */
    private static void partsWithinParts() {
        String[] parts = {"place zz at 1 ;", "person zz purse 1 ;", "twins ann ben ;", "knows ann ben ;", "was ann in inn hour 1 ;",
            "base 1 ;", "more 1 ;", "speed 1 ;"};
        for (String part : parts) {
            taken(PEOPLE + part, part.startsWith("person") ? 3 : 2);
            StringBuilder ahead = new StringBuilder(PEOPLE);
            for (String token : part.split(" ")) {
                if (ahead.length() > PEOPLE.length()) {
                    for (String other : parts) {
                        faulty(ahead + other.replace("zz", "yy"), 2, ahead.length());
                    }
                }
                ahead.append(token).append(' ');
            }
        }
    }

    /** "3 a new NAME that is taken; a NAME that is no such one told ahead." */
    private static void namesToldAhead() {
        faulty("place a at 1;place a at 2;", 3, 19);
        faulty("place a at 1;person a purse 2;", 3, 20);
        faulty("person a purse 1;place a at 2;", 3, 23);
        faulty("person a purse 1;person a purse 2;", 3, 24);
        faulty("knows a b;person a purse 1;person b purse 1;", 3, 6);
        faulty("person a purse 1;knows a b;person b purse 1;", 3, 25);
        faulty(PEOPLE + "twins inn ann;", 3, PEOPLE.length() + 6);
        faulty(PEOPLE + "twins ann mill;", 3, PEOPLE.length() + 10);
        faulty(PEOPLE + "knows eve ann;", 3, PEOPLE.length() + 6);
        faulty(PEOPLE + "knows ann inn;", 3, PEOPLE.length() + 10);
        faulty(PEOPLE + "was inn in inn hour 1;", 3, PEOPLE.length() + 4);
        faulty(PEOPLE + "was ann in ben hour 1;", 3, PEOPLE.length() + 11);
        faulty(PEOPLE + "was ann in port hour 1;place port at 3;", 3, PEOPLE.length() + 11);
        // names of a COURT ahead are told no more
        OathTill x = people();
        CHECK.refused(x, "of the court ahead", Check.court(x, "knows ann ben;"), 9);
        CHECK.is("3", x.fault(0), 3);
        CHECK.is("the same names anew", Check.court(x, "person inn purse 1;place ann at 1;was inn in ann hour 1;"), 1);
        CHECK.refused(x, "a name that a court with a fault told", Check.court(x, "person eve purse 1;;"), 9);
        CHECK.is("is not taken", Check.court(x, "place eve at 1;"), 0);
    }

    /** "5 a PERSON and itself (at the second NAME); one of TWINS already (at that NAME)". */
    private static void twinsAndItself() {
        String four = persons(4);
        int n = four.length();
        CHECK.is("two couples", taken(four + "twins pa pb;twins pc pd;", 4).person(3, 3), 2);
        CHECK.is("the other of it", taken(four + "twins pb pa;", 4).person(0, 3), 1);
        faulty(four + "twins pa pa;", 5, n + 9);
        faulty(four + "knows pa pa;", 5, n + 9);
        faulty(four + "twins pa pb;twins pa pc;", 5, n + 18);
        faulty(four + "twins pa pb;twins pb pc;", 5, n + 18);
        faulty(four + "twins pa pb;twins pc pa;", 5, n + 21);
        faulty(four + "twins pa pb;twins pc pb;", 5, n + 21);
        faulty(four + "twins pa pb;twins pa pb;", 5, n + 18);
        faulty(four + "twins pa pb;twins pb pa;", 5, n + 18);
        faulty(four + "twins pa pb;twins pa", 5, n + 18);
        faulty(four + "twins pa pa", 5, n + 9);
        CHECK.is("twins may know each other", taken(four + "twins pa pb;knows pa pb;", 4).knows(1, 0), 1);
        CHECK.is("known twice", taken(four + "knows pa pb;knows pa pb;knows pb pa;", 4).knows(0, 1), 1);
        OathTill x = taken(four, 4);
        CHECK.refused(x, "no twins", x.person(0, 3), 6);
        CHECK.is("nobody knows", x.knows(0, 3), 0);
    }

    /** "5 .. base, more, speed told already (at that WORD)". */
    private static void ratesOnce() {
        taken("base 1;more 1;speed 1;", 0);
        faulty("base 1;base 1;", 5, 7);
        faulty("more 1;more 1;", 5, 7);
        faulty("speed 1;speed 1;", 5, 8);
        faulty("speed 1;base 1;more 1;base", 5, 22);
        faulty("speed 1;base 1;more 1;more", 5, 22);
        faulty("speed 1;base 1;more 1;speed", 5, 22);
        faulty("base 5;base 5;", 5, 7);
        // in another COURT they are told anew
        OathTill x = taken("base 1;more 1;speed 1;", 0);
        CHECK.is("anew", Check.court(x, "base 2;more 3;speed 4;"), 0);
        CHECK.is("base", x.told(8), 2);
    }

    /** "the first along the text (of one TOKEN the least kind)". */
    private static void theFirstFault() {
        faulty("base 100;?", 4, 5);
        faulty("place a in ?", 2, 8);
        faulty("knows a a;", 3, 6);
        faulty("base 1;base ?", 5, 7);
        faulty(places(5) + "place ?", 6, places(5).length());
        faulty("place ? at 61;", 1, 6);
        faulty("base 1;base 100;", 5, 7);
        faulty("place a at 61 place a", 4, 11);
        faulty(persons(2) + "twins pa pb;twins pa pa;", 5, persons(2).length() + 18);
        // one TOKEN of which two are true: a taken NAME of nine letters, a word that is no NAME
        faulty("place purse at 1;", 2, 6);
        faulty("base 12345;", 1, 5);
        faulty("12345 base", 1, 0);
    }

    /** "the end: the text's length". */
    private static void theTextsEnd() {
        String whole = "person ab purse 12 child bishop;";
        for (int n = 1; n < whole.length(); n++) {
            OathTill x = new OathTill();
            Check.feed(x, whole);
            CHECK.refused(x, "cut at " + n, x.court(n), 9);
            CHECK.is("2 at " + n, x.fault(0), 2);
            boolean half = n < 6 || (n > 10 && n < 15) || (n > 19 && n < 24) || (n > 25 && n < 31);
            int begin = n < 6 ? 0 : n < 15 ? 10 : n < 24 ? 19 : 25;
            CHECK.is("its place at " + n, x.fault(1), half ? begin : n);
        }
        OathTill x = new OathTill();
        Check.feed(x, whole);
        CHECK.is("whole", x.court(whole.length()), 1);
        faulty("base 1 ", 2, 7);
        faulty("base 1\n\n\n", 2, 9);
    }

    /** "The first n bytes of the tape (which is empty then)"; "1: n below 0, or more than the tape has, too". */
    private static void whatTheTapeHas() {
        OathTill x = new OathTill();
        CHECK.is("an empty tape", x.court(0), 0);
        CHECK.refused(x, "one more than it has", x.court(1), 1);
        Check.feed(x, "base 7;more 7;      ");
        CHECK.refused(x, "21 of 20", x.court(21), 1);
        CHECK.refused(x, "-1", x.court(-1), 1);
        CHECK.is("7 of 20", x.court(7), 0);
        CHECK.is("base", x.told(8), 7);
        CHECK.is("no more than n", x.told(9), 2);
        CHECK.refused(x, "the rest is gone, too", x.court(1), 1);
        Check.feed(x, "base 7;more 7;      ");
        CHECK.is("20 of 20", x.court(20), 0);
        CHECK.is("more", x.told(9), 7);
        Check.feed(x, "?base 7;");
        CHECK.is("none of 20", x.court(0), 0);
        CHECK.refused(x, "and it is empty", x.court(1), 1);
        String long900 = "base 8;" + " ".repeat(886) + "more 9;";
        CHECK.is("900 bytes", Check.court(x, long900), 0);
        CHECK.is("the last of them", x.told(9), 9);
        CHECK.is("the first of them", x.told(8), 8);
    }

    /** "A COURT that is taken is there in place of that ahead; no OATHS were sworn, the TILL is 0, there are no TRIALS." */
    private static void aNewCourt() {
        OathTill x = new OathTill();
        Check.court(x, persons(6) + places(5) + "base 1;more 1;speed 1;twins pa pb;knows pa pb;was pa in la hour 3;");
        x.earn(0, 9);
        x.swear(0, 1, 0, 0);
        x.find(1, 0, 0);
        x.swear(0, 1, 0, 1);
        CHECK.is("two were sworn", x.told(2), 2);
        Check.trials(x, "swear pa says pb in la hour 2;swear pa says pb in la hour 3;");
        x.mean(0, 2);
        x.alibi(1, 0, 5, 2);
        CHECK.is("a new one", Check.court(x, persons(2) + places(2)), 2);
        int[] due = {2, 2, 0, 0, 0, 0, 0, 0, 5, 2, 10, 0};
        for (int what = 0; what < 12; what++) {
            CHECK.is("told " + what, x.told(what), due[what]);
        }
        CHECK.refused(x, "no twin any more", x.person(0, 3), 6);
        CHECK.is("they know no more", x.knows(0, 1), 0);
        CHECK.refused(x, "it is known no more", x.known(0, 3), 6);
        CHECK.is("none sworn", x.person(0, 4), 0);
        CHECK.is("none spent", x.person(0, 5), 0);
        CHECK.refused(x, "no oath", x.oath(0, 0), 1);
        CHECK.refused(x, "no trials", x.live(0), 6);
        CHECK.refused(x, "no fees were paid", x.kept(), 6);
        CHECK.refused(x, "a third person is none", x.person(2, 0), 1);
        CHECK.refused(x, "a third place is none", x.mile(2), 1);
        CHECK.is("the first oath anew", x.swear(1, 1, 0, 0), 0);
        int[] oath = {1, 1, 0, 0, 5, 0, 0, 0};
        for (int what = 0; what < 8; what++) {
            CHECK.is("its " + what, x.oath(0, what), oath[what]);
        }
        CHECK.is("the till of it alone", x.told(11), 5);
        CHECK.refused(x, "court with a fault", Check.court(x, persons(3) + "was"), 9);
        CHECK.is("the old one stays", x.told(1), 2);
        CHECK.is("an empty one", Check.court(x, ""), 0);
        CHECK.is("has no places", x.told(0), 0);
    }

    // ---- TRIALS

    /** Each STEP whole, and each cut short at each of its TOKENS. */
    private static void trialsTexts() {
        trialsTaken("", 0);
        trialsTaken(" \n", 0);
        String[] steps = {"swear ann says ben in inn hour 1 ;", "any ann says ben ;", "find ann in inn hour 7 ;", "recant ann ;",
            "when till < 0 ; end ;", "when purse ann > 9999 ; end ;", "when stands ann in inn hour 0 ; end ;", "loop 1 ; end ;", "stop ;"};
        for (String step : steps) {
            trialsTaken(step, 1);
            trialsTaken(step.replace(" ;", ";"), 1);
            String[] tokens = step.split(" ");
            StringBuilder ahead = new StringBuilder();
            for (int i = 0; i < tokens.length; i++) {
                if (i > 0 && !(tokens[i].equals("end"))) {
                    trialsFaulty(ahead + ")", 1, ahead.length());
                    trialsFaulty(ahead + "abcdefghi", 2, ahead.length());
                    trialsFaulty(ahead.toString(), 2, ahead.length());
                    trialsFaulty(ahead + (tokens[i].equals(";") ? "=" : ";"), 2, ahead.length());
                    trialsFaulty(ahead + "place", 2, ahead.length());
                }
                ahead.append(tokens[i]).append(' ');
            }
        }
        trialsFaulty(";", 2, 0);
        trialsFaulty("stop;;", 2, 5);
        trialsFaulty("ann;", 2, 0);
        trialsFaulty("7;", 2, 0);
        trialsFaulty("abcdefghi;", 2, 0);
        trialsFaulty("stop stop;", 2, 5);
        for (String part : new String[] {"place", "person", "twins", "knows", "was", "base", "more", "speed"}) {
            trialsFaulty("stop;" + part + " ", 2, 5);
        }
    }

    /** "6 a 31st STEP (at its WORD; end is none)". */
    private static void trialsSteps() {
        trialsTaken("stop;".repeat(29), 29);
        trialsTaken("stop;".repeat(30), 30);
        trialsFaulty("stop;".repeat(30) + "stop;", 6, 150);
        trialsFaulty("stop;".repeat(30) + "loop 0", 6, 150);
        trialsFaulty("stop;".repeat(30) + "swear ?", 6, 150);
        trialsFaulty("stop;".repeat(30) + "end;", 2, 150);
        trialsFaulty("stop;".repeat(30) + "?", 1, 150);
        trialsFaulty("stop;".repeat(30) + "till", 2, 150);
        trialsTaken("loop 1;" + "stop;".repeat(29) + "end;", 30);
        trialsFaulty("loop 1;" + "stop;".repeat(30) + "end;", 6, 152);
        trialsTaken("loop 1;loop 2;end;end;".repeat(13) + "stop;".repeat(2), 28);
        // 27 of them have an end, as many as 300 bytes can hold
        trialsTaken("loop 9;end;".repeat(27) + "\n\n\n", 27);
    }

    /** "7 a when, loop within three others (at its WORD)". */
    private static void trialsDepth() {
        trialsTaken("loop 1;loop 1;loop 1;end;end;end;", 3);
        trialsTaken("when till=0;when till=0;when till=0;stop;end;end;end;", 4);
        trialsTaken("loop 1;loop 1;loop 1;end;loop 1;end;end;loop 1;loop 1;end;end;end;loop 1;end;", 7);
        trialsFaulty("loop 1;loop 1;loop 1;loop 1;end;end;end;end;", 7, 21);
        trialsFaulty("loop 1;loop 1;loop 1;when", 7, 21);
        trialsFaulty("when till=0;loop 1;when till=0;loop", 7, 31);
        trialsFaulty("loop 1;loop 1;loop 1;end;when till=0;loop 1;", 7, 37);
        trialsFaulty("loop 1;loop 1;loop 1;" + "stop;".repeat(27) + "when", 6, 156);
        trialsFaulty("loop 1;loop 1;loop 1;" + "stop;".repeat(26) + "when", 7, 151);
    }

    /** "4 a NUMBER that can't be": an HOUR 0 to 7, loop 1 to 99, till and purse 0 to 9,999. */
    private static void trialsNumbers() {
        trialsTaken("loop 1;end;loop 99;end;loop 0099;end;", 3);
        trialsFaulty("loop 0;end;", 4, 5);
        trialsFaulty("loop 100;end;", 4, 5);
        trialsFaulty("loop 9999;end;", 4, 5);
        trialsFaulty("loop 00001;end;", 1, 5);
        trialsTaken("when till=0;end;when till=9999;end;when purse ann=0;end;when purse ann=9999;end;", 4);
        trialsFaulty("when till=10000;end;", 1, 10);
        trialsFaulty("when purse ann=10000;end;", 1, 15);
        trialsTaken("find ann in inn hour 0;find ann in inn hour 7;", 2);
        trialsFaulty("find ann in inn hour 8;", 4, 21);
        trialsTaken("swear ann says ann in inn hour 0;swear ann says ann in inn hour 7;", 2);
        trialsFaulty("swear ann says ann in inn hour 8;", 4, 31);
        trialsTaken("when stands ann in inn hour 7;end;", 1);
        trialsFaulty("when stands ann in inn hour 8;end;", 4, 28);
    }

    /** "3 a NAME that is no such one." */
    private static void trialsNames() {
        trialsFaulty("swear eve says ann in inn hour 0;", 3, 6);
        trialsFaulty("swear inn says ann in inn hour 0;", 3, 6);
        trialsFaulty("swear ann says eve in inn hour 0;", 3, 15);
        trialsFaulty("swear ann says inn in inn hour 0;", 3, 15);
        trialsFaulty("swear ann says ben in ann hour 0;", 3, 22);
        trialsFaulty("swear ann says ben in port hour 0;", 3, 22);
        trialsFaulty("any eve says ann;", 3, 4);
        trialsFaulty("any ann says mill;", 3, 13);
        trialsFaulty("find inn in inn hour 0;", 3, 5);
        trialsFaulty("find ann in ann hour 0;", 3, 12);
        trialsFaulty("recant eve;", 3, 7);
        trialsFaulty("when purse inn=0;end;", 3, 11);
        trialsFaulty("when stands inn in inn hour 0;end;", 3, 12);
        trialsFaulty("when stands ann in ann hour 0;end;", 3, 19);
        trialsFaulty("recant annn;", 3, 7);
        trialsFaulty("recant an;", 3, 7);
        trialsTaken("swear ann says ann in inn hour 0;any ben says ben;", 2);
        OathTill x = new OathTill();
        CHECK.refused(x, "without persons", Check.trials(x, "recant ann;"), 9);
        CHECK.is("3", x.fault(0), 3);
        CHECK.is("stop needs none", Check.trials(x, "stop;"), 1);
        CHECK.is("nor does till", Check.trials(x, "when till<1;end;"), 1);
    }

    /** "TEST: till COMPARES NUMBER, or purse NAME COMPARES NUMBER, or stands NAME in NAME hour NUMBER." */
    private static void trialsTests() {
        for (String sign : new String[] {"<", ">", "="}) {
            trialsTaken("when till" + sign + "5;end;", 1);
            trialsTaken("when purse ben" + sign + "5;end;", 1);
        }
        trialsFaulty("when till;5;end;", 2, 9);
        trialsFaulty("when till<<5;end;", 2, 10);
        trialsFaulty("when till<=5;end;", 2, 10);
        trialsFaulty("when till 5;end;", 2, 10);
        trialsFaulty("when purse<5;end;", 2, 10);
        trialsFaulty("when ann<5;end;", 2, 5);
        trialsFaulty("when 5<till;end;", 2, 5);
        trialsFaulty("when loop 5;end;", 2, 5);
        trialsFaulty("when till ann<5;end;", 2, 10);
    }

    /** "an end without a beginning; the text's end ahead of an end: 2". */
    private static void trialsEnds() {
        trialsFaulty("end;", 2, 0);
        trialsFaulty("stop;end;", 2, 5);
        trialsFaulty("loop 1;end;end;", 2, 11);
        trialsFaulty("loop 1;", 2, 7);
        trialsFaulty("loop 1;\n ", 2, 9);
        trialsFaulty("when till=0;stop;", 2, 17);
        trialsFaulty("loop 1;loop 1;end;", 2, 18);
        trialsFaulty("loop 1;end", 2, 10);
        trialsFaulty("loop 1;end end;", 2, 11);
        trialsFaulty("loop 1;end 1;", 2, 11);
        OathTill x = people();
        CHECK.refused(x, "open", Check.trials(x, "loop 1;loop 1;loop 1;"), 9);
        CHECK.is("the next begin anew", Check.trials(x, "loop 1;loop 1;loop 1;end;end;end;"), 3);
        CHECK.refused(x, "open again", Check.trials(x, "loop 1;stop;"), 9);
        CHECK.refused(x, "its end can't come later", Check.trials(x, "end;"), 9);
        CHECK.is("at its place", x.fault(1), 0);
    }

    /** "TRIALS are a TEXT of at most 300 bytes"; "1: above 300, too". */
    private static void trialsLength() {
        OathTill x = people();
        CHECK.is("300 bytes", Check.trials(x, "stop;" + " ".repeat(290) + "stop;"), 2);
        Check.feed(x, "stop;" + " ".repeat(400));
        CHECK.refused(x, "301 bytes", x.trials(301), 1);
        CHECK.refused(x, "all of them", x.trials(420), 1);
        CHECK.refused(x, "one more than there are", x.trials(421), 1);
        CHECK.refused(x, "-1", x.trials(-1), 1);
        CHECK.is("the ones ahead stay", x.live(0), 1);
        CHECK.is("the tape stays", x.feed(0, 0, 0, 0, 0), 440);
        CHECK.is("300 of them", x.trials(300), 1);
        CHECK.is("the tape is empty", x.feed(0, 0, 0, 0, 0), 20);
        CHECK.is("0 of 20", x.trials(0), 0);
        CHECK.is("the tape is empty again", x.feed(0, 0, 0, 0, 0), 20);
        x.trials(0);
        CHECK.is("a court of more than 300", Check.court(x, " ".repeat(301) + "base 3;"), 0);
        Check.feed(x, "stop;");
        CHECK.refused(x, "more than the tape has", x.trials(21), 1);
        CHECK.is("as much as it needs", x.trials(5), 1);
        Check.feed(x, "stop;");
        CHECK.refused(x, "zero bytes are no tokens", x.trials(20), 9);
        CHECK.is("at the first", x.fault(1), 5);
    }

    /** A COURT that is taken has no TRIALS; one with a FAULT leaves them; TRIALS leave the COURT. */
    private static void trialsOfAnotherCourt() {
        OathTill x = people();
        Check.trials(x, "stop;");
        Check.court(x, PEOPLE + ";");
        CHECK.is("a fault leaves them", x.live(0), 1);
        x.swear(0, 1, 0, 0);
        CHECK.refused(x, "trials with a fault", Check.trials(x, "stop"), 9);
        CHECK.is("leave those ahead", x.live(0), 1);
        CHECK.is("new trials", Check.trials(x, "recant ann;recant ann;"), 2);
        CHECK.is("leave the oaths", x.told(3), 1);
        CHECK.is("are there", x.live(0), 2);
        CHECK.is("other steps in their places", Check.trials(x, "swear ben says ben in mill hour 2;swear ben says ben in mill hour 3;"), 2);
        x.live(0);
        CHECK.is("are sworn", x.lived(1), 2);
        CHECK.is("a new court", Check.court(x, PEOPLE), 2);
        CHECK.refused(x, "has none", x.live(0), 6);
    }

    /** "Of the latest court() or trials() with STATUS 0 or 9 .. NONE for others, and ahead of any." */
    private static void faultIsTold() {
        CHECK.promise(12);
        OathTill x = new OathTill();
        for (int what = -2; what <= 3; what++) {
            CHECK.is("ahead of any " + what, x.fault(what), -1);
        }
        x.court(1);
        x.trials(1);
        CHECK.is("status 1 tells none", x.fault(0), -1);
        x.court(0);
        CHECK.is("0 without one", x.fault(0), 0);
        CHECK.is("NONE without one", x.fault(1), -1);
        Check.court(x, ";");
        CHECK.is("a fault at the first byte", x.fault(1), 0);
        CHECK.is("its kind", x.fault(0), 2);
        for (int what : new int[] {-1, 2, 3, Integer.MIN_VALUE, Integer.MAX_VALUE}) {
            CHECK.is("others " + what, x.fault(what), -1);
        }
        x.court(-1);
        x.trials(301);
        CHECK.is("status 1 leaves it", x.fault(0), 2);
        Check.trials(x, "stop");
        CHECK.is("of trials", x.fault(1), 4);
        Check.trials(x, "stop;");
        CHECK.is("the latest has none", x.fault(0), 0);
        CHECK.is("no place either", x.fault(1), -1);
        Check.trials(x, "loop 1;loop 1;loop 1;loop 1;");
        CHECK.is("the last kind", x.fault(0), 7);
        Check.court(x, "");
        CHECK.is("by court", x.fault(0), 0);
    }

    /** The first and the last that can be asked of a COURT (promises 13 to 18). */
    private static void askedOfACourt() {
        OathTill x = taken(persons(6) + places(5) + "knows pa pb;knows pb pc;knows pc pd;knows pd pe;knows pe pf;"
            + "was pa in le hour 0;was pf in la hour 7;was pf in lb hour 7;was pf in lb hour 6;", 6);
        CHECK.promise(13);
        CHECK.is("the first told", x.told(0), 5);
        CHECK.is("the last told", x.told(11), 0);
        CHECK.promise(14);
        CHECK.is("the first mile", x.mile(0), 0);
        CHECK.is("the last mile", x.mile(4), 48);
        CHECK.refused(x, "no sixth place", x.mile(5), 1);
        CHECK.promise(15);
        CHECK.is("the first person", x.person(0, 0), 0);
        CHECK.is("the last person", x.person(5, 5), 0);
        CHECK.refused(x, "a seventh", x.person(6, 0), 1);
        CHECK.promise(16);
        CHECK.is("knows", x.knows(5, 4), 1);
        CHECK.is("by others is not told", x.knows(0, 5), 0);
        CHECK.refused(x, "itself", x.knows(5, 5), 1);
        CHECK.refused(x, "a seventh", x.knows(0, 6), 1);
        CHECK.promise(17);
        for (int person = 0; person < 6; person++) {
            CHECK.is("a chain of six is one kin", x.kin(person), 63);
        }
        CHECK.refused(x, "no kin", x.kin(6), 1);
        CHECK.promise(18);
        CHECK.is("hour 0", x.known(0, 0), 4);
        CHECK.is("hour 7: the latest", x.known(5, 7), 1);
        CHECK.refused(x, "an hour that is not known", x.known(5, 5), 6);
        CHECK.refused(x, "hour 8", x.known(5, 8), 1);
        CHECK.refused(x, "hour -1", x.known(5, -1), 1);
        OathTill backwards = taken(persons(6) + "knows pf pe;knows pd pe;knows pd pc;knows pb pc;knows pb pa;", 6);
        CHECK.promise(17);
        CHECK.is("a chain told from its end", backwards.kin(0), 63);
        CHECK.is("and from there", backwards.kin(5), 63);
        OathTill alone = taken(persons(1), 1);
        CHECK.is("one alone", alone.kin(0), 1);
    }
}
