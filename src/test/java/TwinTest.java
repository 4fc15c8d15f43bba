import java.util.Random;

/** Drawn runs of calls on OathTill and on PlainTill: every answer and STATUS must be the same. */
public final class TwinTest {
    private static final int RUNS = 1500;
    private static final int CALLS = 500;
    private static final String[] PLACE_NAMES = {"inn", "mill", "port", "fordside", "hill", "moor"};
    private static final String[] PERSON_NAMES = {"ann", "ben", "kid", "pope", "eve", "zed", "extra"};

    private final Random dice;
    private final int run;
    private OathTill x = new OathTill();
    private PlainTill y = new PlainTill();
    private int places = 0;
    private int persons = 0;
    private String call = "";
    private int wrong = 0;

    private TwinTest(int run) {
        this.run = run;
        dice = new Random(run * 7919L + 17);
    }

    public static void main(String[] args) {
        int first = args.length > 0 ? Integer.parseInt(args[0]) : 0;
        int runs = args.length > 1 ? Integer.parseInt(args[1]) : RUNS;
        int wrong = 0;
        for (int run = first; run < first + runs && wrong == 0; run++) {
            wrong += new TwinTest(run).go();
        }
        System.out.println(runs + " runs, " + wrong + " wrong");
        if (wrong != 0) {
            System.exit(1);
        }
    }

    private int go() {
        for (int i = 0; i < CALLS && wrong == 0; i++) {
            one(i);
            same("status", x.status(), y.status());
        }
        return wrong;
    }

    private void same(String what, long got, long due) {
        if (got != due && wrong == 0) {
            wrong++;
            System.out.println("run " + run + ", " + call + ": " + what + " " + got + ", by PlainTill " + due);
        }
    }

    private void same(boolean got, boolean due) {
        same("answered", got ? 1 : 0, due ? 1 : 0);
    }

    private void same(long got, long due) {
        same("answered", got, due);
    }

    /** 0 to n - 1, at times beyond. */
    private int upTo(int n) {
        int odd = dice.nextInt(60);
        if (odd == 0) {
            return -1 - dice.nextInt(3);
        }
        if (odd == 1) {
            return n + dice.nextInt(3);
        }
        if (odd == 2 && dice.nextInt(6) == 0) {
            return dice.nextBoolean() ? Integer.MAX_VALUE : Integer.MIN_VALUE;
        }
        return n <= 0 ? 0 : dice.nextInt(n);
    }

    private int person() {
        return upTo(persons);
    }

    private int place() {
        return upTo(places);
    }

    /** Few HOURS, so that OATHS meet each other. */
    private int hour() {
        return dice.nextInt(3) == 0 ? upTo(8) : upTo(3);
    }

    // ---- texts

    private String pick(String[] names, int n) {
        return names[dice.nextInt(Math.max(1, Math.min(names.length, n)))];
    }

    private String gap() {
        return dice.nextInt(5) == 0 ? (dice.nextBoolean() ? "\n" : "  ") : "";
    }

    private String courtText() {
        StringBuilder b = new StringBuilder();
        places = dice.nextInt(40) == 0 ? 0 : 1 + dice.nextInt(5);
        persons = dice.nextInt(40) == 0 ? 0 : 1 + dice.nextInt(6);
        int spread = dice.nextBoolean() ? 61 : 25;
        for (int i = 0; i < places; i++) {
            b.append("place ").append(PLACE_NAMES[i]).append(" at ").append(dice.nextInt(spread)).append(";").append(gap());
        }
        for (int i = 0; i < persons; i++) {
            int purse = dice.nextInt(4) == 0 ? dice.nextInt(1000) : dice.nextInt(60);
            b.append("person ").append(PERSON_NAMES[i]).append(" purse ").append(purse);
            b.append(dice.nextInt(4) == 0 ? " child" : "").append(dice.nextInt(5) == 0 ? " bishop" : "").append(";").append(gap());
        }
        int twins = persons >= 2 ? dice.nextInt(persons / 2 + 1) : 0;
        for (int i = 0; i < twins; i++) {
            b.append("twins ").append(PERSON_NAMES[2 * i]).append(" ").append(PERSON_NAMES[2 * i + 1]).append(";").append(gap());
        }
        for (int i = dice.nextInt(4); i > 0 && persons >= 2; i--) {
            int a = dice.nextInt(persons);
            int c = (a + 1 + dice.nextInt(persons - 1)) % persons;
            b.append("knows ").append(PERSON_NAMES[a]).append(" ").append(PERSON_NAMES[c]).append(";").append(gap());
        }
        for (int i = dice.nextInt(6); i > 0 && persons > 0 && places > 0; i--) {
            b.append("was ").append(where()).append(";").append(gap());
        }
        b.append(dice.nextInt(3) == 0 ? "" : "base " + dice.nextInt(dice.nextInt(5) == 0 ? 100 : 12) + ";");
        b.append(dice.nextInt(3) == 0 ? "" : "more " + dice.nextInt(dice.nextInt(5) == 0 ? 100 : 5) + ";");
        b.append(dice.nextInt(3) == 0 ? "" : "speed " + dice.nextInt(dice.nextInt(3) == 0 ? 61 : 20) + ";");
        return b.toString();
    }

    private String where() {
        return pick(PERSON_NAMES, persons) + " in " + pick(PLACE_NAMES, places) + " hour " + dice.nextInt(dice.nextBoolean() ? 8 : 3);
    }

    private String steps(int depth, int room) {
        StringBuilder b = new StringBuilder();
        int many = 1 + dice.nextInt(4);
        for (int i = 0; i < many && b.length() < room; i++) {
            int kind = dice.nextInt(depth < 3 ? 8 : 6);
            switch (kind) {
                case 0 -> b.append("swear ").append(pick(PERSON_NAMES, persons)).append(" says ").append(where()).append(";");
                case 1, 2 -> b.append("any ").append(pick(PERSON_NAMES, persons)).append(" says ")
                    .append(pick(PERSON_NAMES, persons)).append(";");
                case 3 -> b.append("find ").append(where()).append(";");
                case 4 -> b.append("recant ").append(pick(PERSON_NAMES, persons)).append(";");
                case 5 -> b.append(dice.nextInt(4) == 0 ? "stop;" : "any " + PERSON_NAMES[0] + " says " + PERSON_NAMES[0] + ";");
                case 6 -> b.append("when ").append(test()).append(";").append(within(depth, room)).append("end;");
                default -> b.append("loop ").append(1 + dice.nextInt(dice.nextInt(3) == 0 ? 99 : 5)).append(";")
                    .append(within(depth, room)).append("end;");
            }
            b.append(gap());
        }
        return b.toString();
    }

    private String within(int depth, int room) {
        return dice.nextInt(8) == 0 ? "" : steps(depth + 1, room / 2);
    }

    private String test() {
        String sign = new String[] {"<", " > ", "= "}[dice.nextInt(3)];
        return switch (dice.nextInt(3)) {
            case 0 -> "till" + sign + dice.nextInt(30);
            case 1 -> "purse " + pick(PERSON_NAMES, persons) + sign + dice.nextInt(60);
            default -> "stands " + where();
        };
    }

    private static final String[] BITS = {";", "<", ">", "=", "?", "A", " ", "\n", "9", "12345", "0", "00007", "x", "end;", "stop;",
        "loop 3;", "when", "place", "person", "twins", "knows", "was", "in", "hour", "base", "more 3;", "speed", "child", "bishop",
        "abcdefghi", "abcdefgh", "purse", "says", "till", "ann", "inn", "\u00e9", "\0", "61", "100", "1000", "8", "99", "loop 100;",
        "twins ann ben;", "knows ann ann;", "place inn at 5;", "person p purse 0;", "person q purse 1;", "place r at 9;", "base 5;"};

    private String spoilt(String text) {
        StringBuilder b = new StringBuilder(text);
        for (int i = 1 + dice.nextInt(2); i > 0; i--) {
            int at = dice.nextInt(b.length() + 1);
            if (dice.nextInt(3) == 0) {
                // behind a ; so that what is put in may stand there
                int semicolon = b.indexOf(";", at);
                at = semicolon < 0 ? at : semicolon + 1;
            }
            switch (dice.nextInt(4)) {
                case 0 -> b.insert(at, BITS[dice.nextInt(BITS.length)]);
                case 1 -> b.delete(at, Math.min(b.length(), at + 1 + dice.nextInt(6)));
                case 2 -> b.setLength(at);
                default -> {
                    if (at < b.length()) {
                        b.setCharAt(at, BITS[dice.nextInt(BITS.length)].charAt(0));
                    }
                }
            }
        }
        return b.toString();
    }

    private void feedBoth(String text) {
        for (int i = 0; i < text.length(); i += 20) {
            int[] v = new int[5];
            for (int j = 0; j < 20; j++) {
                v[j / 4] = v[j / 4] << 8 | (i + j < text.length() ? text.charAt(i + j) & 255 : 0);
            }
            call = "feed";
            same(x.feed(v[0], v[1], v[2], v[3], v[4]), y.feed(v[0], v[1], v[2], v[3], v[4]));
        }
    }

    private void faults() {
        same("fault", x.fault(0), y.fault(0));
        same("place of the fault", x.fault(1), y.fault(1));
    }

    private void court(String text) {
        if (dice.nextInt(10) != 0) {
            x.court(0);
            y.court(0);
        }
        feedBoth(text);
        int n = dice.nextInt(20) == 0 ? upTo(900) : text.length();
        call = "court(" + n + ") of " + text;
        same(x.court(n), y.court(n));
        faults();
        places = x.told(0);
        persons = x.told(1);
        same(places, y.told(0));
        same(persons, y.told(1));
    }

    private void courtStays(String text) {
        feedBoth(text);
        int n = Math.min(text.length(), 900);
        call = "court(" + n + ") of " + text;
        same(x.court(n), y.court(n));
        faults();
        places = x.told(0);
        persons = x.told(1);
        same(places, y.told(0));
        same(persons, y.told(1));
    }

    private void trials(String text) {
        feedBoth(text);
        int n = dice.nextInt(20) == 0 ? upTo(320) : text.length();
        call = "trials(" + n + ") of " + text;
        same(x.trials(n), y.trials(n));
        faults();
    }

    // ---- calls

    private void one(int i) {
        if (i == 0 || dice.nextInt(200) == 0) {
            int oldPlaces = places;
            int oldPersons = persons;
            String text = courtText();
            places = oldPlaces;
            persons = oldPersons;
            court(text);
            return;
        }
        if (dice.nextInt(60) == 0) {
            int oldPlaces = places;
            int oldPersons = persons;
            String text = spoilt(courtText());
            places = oldPlaces;
            persons = oldPersons;
            courtStays(text);
            return;
        }
        if (i == 1 || dice.nextInt(30) == 0) {
            String text = steps(0, 200);
            trials(dice.nextInt(3) == 0 ? spoilt(text) : text);
            return;
        }
        int kind = dice.nextInt(46);
        if (kind < 14) {
            swearing(kind);
        } else if (kind < 30) {
            asking(kind);
        } else if (kind < 40) {
            planning(kind);
        } else {
            rest(kind);
        }
    }

    private void swearing(int kind) {
        int a = person();
        int p = dice.nextInt(3) == 0 ? person() : upTo(Math.min(2, persons));
        int l = place();
        int h = hour();
        String what = "(" + a + ", " + p + ", " + l + ", " + h + ")";
        switch (kind) {
            case 0, 1, 2, 3 -> {
                call = "swear" + what;
                same(x.swear(a, p, l, h), y.swear(a, p, l, h));
            }
            case 4 -> {
                call = "why" + what;
                same(x.why(a, p, l, h), y.why(a, p, l, h));
            }
            case 5 -> {
                call = "fee" + what;
                same(x.fee(a, p, l, h), y.fee(a, p, l, h));
            }
            case 6 -> {
                call = "gainsaid" + what;
                same(x.gainsaid(a, p, l, h), y.gainsaid(a, p, l, h));
            }
            case 7 -> {
                call = "voids" + what;
                same(x.voids(a, p, l, h), y.voids(a, p, l, h));
            }
            case 8 -> {
                call = "backed" + what;
                same(x.backed(p, l, h), y.backed(p, l, h));
            }
            case 9 -> {
                call = "find" + what;
                if (dice.nextInt(3) == 0) {
                    same(x.find(p, l, h), y.find(p, l, h));
                }
            }
            case 10 -> {
                call = "recant";
                int o = upTo(x.told(2));
                y.told(2);
                if (dice.nextInt(2) == 0) {
                    same(x.recant(o), y.recant(o));
                }
            }
            case 11 -> {
                int much = dice.nextInt(3) == 0 ? upTo(1000) : 1 + dice.nextInt(20);
                call = "earn(" + a + ", " + much + ")";
                same(x.earn(a, much), y.earn(a, much));
            }
            case 12 -> {
                call = "meet" + what;
                if (dice.nextInt(4) == 0) {
                    same(x.meet(a, p), y.meet(a, p));
                }
            }
            default -> {
                int v = dice.nextInt(3) == 0 ? upTo(61) : dice.nextInt(20);
                call = "ride(" + v + ")";
                if (dice.nextInt(3) == 0) {
                    same(x.ride(v), y.ride(v));
                }
            }
        }
    }

    private void asking(int kind) {
        int p = person();
        int q = person();
        int h = hour();
        int what = upTo(kind == 14 ? 12 : 8);
        int o = upTo(x.told(2));
        int o2 = upTo(y.told(2));
        boolean with = dice.nextBoolean();
        call = "asking " + kind + " (" + p + ", " + q + ", " + h + ", " + what + ", " + o + ", " + o2 + ", " + with + ")";
        switch (kind) {
            case 14 -> same(x.told(what), y.told(what));
            case 15 -> same(x.mile(what), y.mile(what));
            case 16 -> same(x.person(p, what), y.person(p, what));
            case 17 -> same(x.knows(p, q), y.knows(p, q));
            case 18 -> same(x.kin(p), y.kin(p));
            case 19 -> same(x.known(p, h), y.known(p, h));
            case 20 -> same(x.oath(o, what), y.oath(o, what));
            case 21 -> same(x.fits(o, o2), y.fits(o, o2));
            case 22 -> {
                int from = place();
                int to = place();
                same(x.road(from, to), y.road(from, to));
            }
            case 23 -> same(x.canBe(p, h), y.canBe(p, h));
            case 24 -> {
                if (dice.nextInt(8) == 0) {
                    same(x.ways(p, with), y.ways(p, with));
                }
            }
            case 25 -> {
                if (dice.nextInt(8) == 0) {
                    same(x.reach(p, h, with), y.reach(p, h, with));
                }
            }
            case 26 -> {
                same(x.mostTrue(p), y.mostTrue(p));
                same(x.mostTrueSet(p), y.mostTrueSet(p));
            }
            case 27 -> same(x.clashes(p), y.clashes(p));
            case 28 -> same(x.doubt(p), y.doubt(p));
            default -> same(x.believed(p, h), y.believed(p, h));
        }
    }

    private void planning(int kind) {
        int p = person();
        int q = person();
        int l = place();
        int h = hour();
        int what = upTo(3);
        int n = dice.nextInt(8) == 0 ? upTo(7) : 1 + dice.nextInt(3);
        call = "planning " + kind + " (" + p + ", " + q + ", " + l + ", " + h + ", " + what + ", " + n + ")";
        switch (kind) {
            case 30 -> {
                same(x.alibi(p, l, h, n), y.alibi(p, l, h, n));
                same("alibi status", x.status(), y.status());
                same(x.alibiBy(0), y.alibiBy(0));
                same(x.alibiBy(1), y.alibiBy(1));
            }
            case 31 -> same(x.alibiBy(what), y.alibiBy(what));
            case 32 -> {
                same(x.call(p, q), y.call(p, q));
                same("call status", x.status(), y.status());
                same(x.callBy(0), y.callBy(0));
                same(x.callBy(1), y.callBy(1));
                same(x.callBy(2), y.callBy(2));
            }
            case 33 -> same(x.callBy(what), y.callBy(what));
            case 34 -> same(x.sayable(p, q), y.sayable(p, q));
            case 35 -> same(x.dearest(p, q), y.dearest(p, q));
            case 36 -> same(x.liar(), y.liar());
            case 37 -> same(x.doubted(), y.doubted());
            case 38 -> {
                same(x.kept(), y.kept());
                fraction();
            }
            default -> {
                same(x.word(p, what), y.word(p, what));
                same(x.liars(q), y.liars(q));
            }
        }
    }

    private void fraction() {
        same("top", x.top(), y.top());
        same("bottom", x.bottom(), y.bottom());
    }

    private void rest(int kind) {
        switch (kind) {
            case 40 -> trays();
            case 41 -> {
                int seed = dice.nextInt(20) == 0 ? upTo(10000) : dice.nextInt(10000);
                call = "live(" + seed + ")";
                if (dice.nextInt(3) == 0) {
                    same(x.live(seed), y.live(seed));
                    same("live status", x.status(), y.status());
                }
                for (int what = 0; what < 5; what++) {
                    same("lived " + what, x.lived(what), y.lived(what));
                }
            }
            case 42 -> {
                int seed = dice.nextInt(20) == 0 ? 9960 + dice.nextInt(60) : upTo(10000);
                int many = dice.nextInt(3) == 0 ? upTo(21) : 1 + dice.nextInt(5);
                call = "mean(" + seed + ", " + many + ")";
                same(x.mean(seed, many), y.mean(seed, many));
                fraction();
            }
            case 43 -> {
                call = "mark";
                same(x.mark(), y.mark());
            }
            case 44 -> {
                call = "undo";
                same(x.undo(), y.undo());
                same("undo status", x.status(), y.status());
                places = x.told(0);
                persons = x.told(1);
                same(places, y.told(0));
                same(persons, y.told(1));
            }
            default -> {
                int what = upTo(5);
                call = "lived(" + what + ")";
                same(x.lived(what), y.lived(what));
            }
        }
    }

    private void trays() {
        for (int i = 0; i < 6 && wrong == 0; i++) {
            int a = upTo(4);
            int b = upTo(4);
            int many = dice.nextInt(3) == 0 ? upTo(61) : upTo(8);
            int at = upTo(8);
            int place = upTo(8);
            long v = dice.nextInt(3) == 0 ? dice.nextLong() : dice.nextInt(6) == 0 ? dice.nextInt() : dice.nextInt(120);
            call = "trays (" + a + ", " + b + ", " + many + ", " + at + ", " + place + ", " + v + ")";
            switch (dice.nextInt(7)) {
                case 0 -> {
                    int sort = upTo(4);
                    same(x.tray(a, sort, many), y.tray(a, sort, many));
                }
                case 1, 2 -> same(x.write(a, place, v), y.write(a, place, v));
                case 3 -> same(x.read(a, place), y.read(a, place));
                case 4 -> same(x.pour(a, place, b, at, many), y.pour(a, place, b, at, many));
                case 5 -> same(x.auction(a, many), y.auction(a, many));
                default -> same(x.hammer(a, many), y.hammer(a, many));
            }
            same("trays status", x.status(), y.status());
        }
    }
}
