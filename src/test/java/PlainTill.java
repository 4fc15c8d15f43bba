import java.math.BigInteger;
import java.util.ArrayDeque;
import java.util.ArrayList;
import java.util.Arrays;
import java.util.Deque;
import java.util.HashMap;
import java.util.List;
import java.util.Map;
import java.util.Set;
import java.util.TreeSet;

/** The document once more, in the plainest way: lists, copies, all sets tried. TwinTest compares with it. */
final class PlainTill {
    private static final Set<String> TAKEN_WORDS = Set.of("place", "at", "person", "purse", "child", "bishop", "twins",
        "knows", "was", "in", "hour", "base", "more", "speed", "swear", "says", "find", "recant", "any", "when", "till",
        "stands", "loop", "end", "stop");

    /** A refused call. */
    private static final class Refusal extends RuntimeException {
        private static final long serialVersionUID = 1;
        final int status;

        Refusal(int status) {
            super(null, null, false, false);
            this.status = status;
        }
    }

    /** A FAULT in a text. */
    private static final class Fault extends RuntimeException {
        private static final long serialVersionUID = 1;
        final int kind;
        final int place;

        Fault(int kind, int place) {
            super(null, null, false, false);
            this.kind = kind;
            this.place = place;
        }
    }

    private static final class Someone {
        int purse;
        boolean child;
        boolean bishop;
        int twin = -1;
        final Set<Integer> knows = new TreeSet<>();
        final Map<Integer, Integer> was = new HashMap<>();

        Someone copy() {
            Someone c = new Someone();
            c.purse = purse;
            c.child = child;
            c.bishop = bishop;
            c.twin = twin;
            c.knows.addAll(knows);
            c.was.putAll(was);
            return c;
        }
    }

    private static final class Sworn {
        int w;
        int p;
        int l;
        int h;
        int fee;
        int state;
        boolean refunded;
        int live;

        Sworn copy() {
            Sworn c = new Sworn();
            c.w = w;
            c.p = p;
            c.l = l;
            c.h = h;
            c.fee = fee;
            c.state = state;
            c.refunded = refunded;
            c.live = live;
            return c;
        }
    }

    /** A STEP with what stands within it. */
    private record Step(String word, String test, int a, int p, int l, int n, char sign, List<Step> within) { }

    private static final class World {
        List<Integer> miles = new ArrayList<>();
        Map<String, Integer> placeNames = new HashMap<>();
        Map<String, Integer> personNames = new HashMap<>();
        List<Someone> people = new ArrayList<>();
        List<Sworn> oaths = new ArrayList<>();
        int base = 5;
        int more = 2;
        int speed = 10;
        int till = 0;
        List<Step> trials = null;

        World copy() {
            World c = new World();
            c.miles.addAll(miles);
            c.placeNames.putAll(placeNames);
            c.personNames.putAll(personNames);
            for (Someone s : people) {
                c.people.add(s.copy());
            }
            for (Sworn s : oaths) {
                c.oaths.add(s.copy());
            }
            c.base = base;
            c.more = more;
            c.speed = speed;
            c.till = till;
            c.trials = trials;
            return c;
        }

        boolean isTrue(int p, int l, int h) {
            return people.get(p).was.getOrDefault(h, -1) == l;
        }

        boolean isTrue(Sworn o) {
            return isTrue(o.p, o.l, o.h);
        }

        boolean fit(int l1, int h1, int l2, int h2) {
            if (h1 == h2) {
                return l1 == l2;
            }
            return Math.abs(miles.get(l1) - miles.get(l2)) <= Math.abs(h1 - h2) * speed;
        }

        List<Sworn> standing() {
            return oaths.stream().filter(o -> o.state == 0).toList();
        }

        List<Sworn> standingOf(int p) {
            return standing().stream().filter(o -> o.p == p).toList();
        }

        int gainsaid(int w, int p, int l, int h) {
            Set<Integer> who = new TreeSet<>();
            for (Sworn o : standingOf(p)) {
                if (o.h == h && o.l != l && o.w != w) {
                    who.add(o.w);
                }
            }
            return who.size();
        }

        int fee(int w, int p, int l, int h) {
            if (isTrue(p, l, h) || people.get(w).bishop) {
                return 0;
            }
            int fee = base + more * gainsaid(w, p, l, h);
            for (Sworn o : standingOf(p)) {
                if (o.w == people.get(w).twin && o.l == l && o.h == h) {
                    return fee / 2 + fee % 2;
                }
            }
            return fee;
        }

        int doubt(int p) {
            int n = 0;
            for (int h = 0; h < 8; h++) {
                Set<Integer> said = new TreeSet<>();
                for (Sworn o : standingOf(p)) {
                    if (o.h == h) {
                        said.add(o.l);
                    }
                }
                n += said.size() >= 2 ? 1 : 0;
            }
            return n;
        }

        int why(int w, int p, int l, int h) {
            if (oaths.size() == 16) {
                return 1;
            }
            for (Sworn o : standingOf(p)) {
                if (o.w == w && o.h == h) {
                    return 2;
                }
            }
            boolean lie = !isTrue(p, l, h);
            if (lie && people.get(p).was.containsKey(h) && doubt(p) == 0) {
                return 3;
            }
            for (Sworn o : standingOf(p)) {
                if (lie && o.w != w && people.get(w).knows.contains(o.w) && !isTrue(o)) {
                    return 4;
                }
            }
            return fee(w, p, l, h) > people.get(w).purse ? 5 : 0;
        }

        int swear(int w, int p, int l, int h, int live) {
            Sworn n = new Sworn();
            n.w = w;
            n.p = p;
            n.l = l;
            n.h = h;
            n.fee = fee(w, p, l, h);
            n.live = live;
            people.get(w).purse -= n.fee;
            till += n.fee;
            if (people.get(w).child) {
                for (Sworn o : standingOf(p)) {
                    if (o.h == h && o.l != l && o.w != w) {
                        o.state = 1;
                    }
                }
            }
            if (!isTrue(n)) {
                for (Sworn o : standingOf(p)) {
                    if (o.h != h && !isTrue(o) && !fit(o.l, o.h, l, h)) {
                        o.state = 1;
                        n.state = 1;
                    }
                }
            }
            oaths.add(n);
            return oaths.size() - 1;
        }

        int find(int p, int l, int h) {
            List<Sworn> refund = new ArrayList<>();
            for (Sworn o : standingOf(p)) {
                if (o.h == h && o.l == l && !isTrue(o)) {
                    refund.add(o);
                }
                if (o.h == h && o.l != l) {
                    o.state = 1;
                }
            }
            for (Sworn o : refund) {
                o.refunded = true;
                till -= o.fee;
                people.get(o.w).purse += o.fee;
            }
            people.get(p).was.put(h, l);
            return refund.size();
        }

        /** (HOUR, PLACE) by HOUR, then by PLACE. */
        List<int[]> sayable(int w, int p) {
            List<int[]> all = new ArrayList<>();
            for (int h = 0; h < 8; h++) {
                for (int l = 0; l < miles.size(); l++) {
                    if (why(w, p, l, h) == 0) {
                        all.add(new int[] {h, l});
                    }
                }
            }
            return all;
        }
    }

    private World w = new World();
    private final Deque<World> marks = new ArrayDeque<>();
    private final long[][] trays = new long[4][];
    private final int[] sorts = new int[4];
    private final List<Integer> tape = new ArrayList<>();
    private int status = 0;
    private BigInteger top = BigInteger.ZERO;
    private BigInteger bottom = BigInteger.ONE;
    private int faultKind = -1;
    private int faultPlace = -1;
    private int[] alibi = null;
    private int[] called = null;
    private int[] lived = null;
    private int lives = 0;

    // the run of a live
    private int s;
    private int steps;
    private int missed;
    private int sworn;
    private int paid;
    private boolean left;
    private boolean stopped;
    private int run;

    private interface Body {
        long give();
    }

    private long ask(Body body) {
        try {
            long answer = body.give();
            status = 0;
            return answer;
        } catch (Refusal r) {
            status = r.status;
            return -1;
        }
    }

    private boolean may(Body body) {
        ask(body);
        return status == 0;
    }

    private static void need(boolean good, int status) {
        if (!good) {
            throw new Refusal(status);
        }
    }

    private static void between(int v, int low, int high) {
        need(low <= v && v <= high, 1);
    }

    private void person(int p) {
        between(p, 0, w.people.size() - 1);
    }

    private void place(int l) {
        between(l, 0, w.miles.size() - 1);
    }

    private static void hour(int h) {
        between(h, 0, 7);
    }

    private void oathThere(int o) {
        between(o, 0, w.oaths.size() - 1);
    }

    private void all(int a, int p, int l, int h) {
        person(a);
        person(p);
        place(l);
        hour(h);
    }

    int status() {
        return status;
    }

    long top() {
        return top.longValue();
    }

    long bottom() {
        return bottom.longValue();
    }

    private void fraction(long a, long b) {
        BigInteger g = BigInteger.valueOf(a).gcd(BigInteger.valueOf(b));
        top = BigInteger.valueOf(a).divide(g);
        bottom = BigInteger.valueOf(b).divide(g);
    }

    boolean tray(int tray, int sort, int many) {
        return may(() -> {
            between(tray, 0, 3);
            between(sort, 0, 3);
            between(many, 0, 60);
            trays[tray] = new long[many];
            sorts[tray] = sort;
            return 0;
        });
    }

    private void spot(int tray, int place) {
        between(tray, 0, 3);
        need(trays[tray] != null, 2);
        need(place >= 0 && place < trays[tray].length, 3);
    }

    boolean write(int tray, int place, long v) {
        return may(() -> {
            spot(tray, place);
            int cut = 64 - (8 << sorts[tray]);
            trays[tray][place] = v << cut >> cut;
            return 0;
        });
    }

    long read(int tray, int place) {
        return ask(() -> {
            spot(tray, place);
            return trays[tray][place];
        });
    }

    boolean pour(int from, int place, int to, int at, int many) {
        return may(() -> {
            between(from, 0, 3);
            between(to, 0, 3);
            need(place >= 0 && at >= 0 && many >= 0, 1);
            need(trays[from] != null && trays[to] != null, 2);
            need(sorts[from] == sorts[to], 8);
            need((long) place + many <= trays[from].length && (long) at + many <= trays[to].length, 3);
            long[] copy = Arrays.copyOfRange(trays[from], place, place + many);
            for (int i = 0; i < many; i++) {
                trays[to][at + i] = copy[i];
            }
            return 0;
        });
    }

    int feed(int a, int b, int c, int d, int e) {
        if (tape.size() > 880) {
            return -1;
        }
        for (int v : new int[] {a, b, c, d, e}) {
            tape.add(v >>> 24);
            tape.add(v >>> 16 & 255);
            tape.add(v >>> 8 & 255);
            tape.add(v & 255);
        }
        return tape.size();
    }

    // ---- texts

    private String source;
    private int at;
    private int tokenAt;
    private String token;

    private String takeText(int n) {
        StringBuilder b = new StringBuilder();
        for (int i = 0; i < n; i++) {
            b.append((char) (int) tape.get(i));
        }
        tape.clear();
        return b.toString();
    }

    /** The next TOKEN, "" at the end, "?" where none begins. */
    private void next() {
        while (at < source.length() && (source.charAt(at) == 10 || source.charAt(at) == 32)) {
            at++;
        }
        tokenAt = at;
        if (at == source.length()) {
            token = "";
            return;
        }
        String sort = "abcdefghijklmnopqrstuvwxyz";
        if (sort.indexOf(source.charAt(at)) < 0) {
            sort = "0123456789";
        }
        int to = at;
        while (to < source.length() && sort.indexOf(source.charAt(to)) >= 0) {
            to++;
        }
        if (to == at && ";<>=".indexOf(source.charAt(at)) >= 0) {
            to++;
        }
        token = source.substring(at, to);
        if (token.isEmpty() || (token.length() > 4 && Character.isDigit(token.charAt(0)))) {
            token = "?";
        }
        at = to;
    }

    private Fault bad(int kind) {
        return new Fault(token.equals("?") ? 1 : kind, tokenAt);
    }

    private void must(String word) {
        if (!token.equals(word)) {
            throw bad(2);
        }
        next();
    }

    private String name() {
        if (!token.matches("[a-z]{1,8}") || TAKEN_WORDS.contains(token)) {
            throw bad(2);
        }
        return token;
    }

    private int number(int low, int high) {
        if (!token.matches("[0-9]{1,4}")) {
            throw bad(2);
        }
        int v = Integer.parseInt(token);
        if (v < low || v > high) {
            throw bad(4);
        }
        next();
        return v;
    }

    private int named(Map<String, Integer> names) {
        Integer v = names.get(name());
        if (v == null) {
            throw bad(3);
        }
        return v;
    }

    private int passNamed(Map<String, Integer> names) {
        int v = named(names);
        next();
        return v;
    }

    int court(int n) {
        return (int) ask(() -> {
            between(n, 0, tape.size());
            World v = new World();
            parse(n, () -> parseCourt(v));
            w = v;
            return v.people.size();
        });
    }

    private void parse(int n, Body body) {
        source = takeText(n);
        at = 0;
        faultKind = 0;
        faultPlace = -1;
        try {
            next();
            body.give();
        } catch (Fault f) {
            faultKind = f.kind;
            faultPlace = f.place;
            throw new Refusal(9);
        }
    }

    private String fresh(World v) {
        String name = name();
        if (v.placeNames.containsKey(name) || v.personNames.containsKey(name)) {
            throw bad(3);
        }
        next();
        return name;
    }

    private int parseCourt(World v) {
        Set<String> rates = new TreeSet<>();
        while (!token.isEmpty()) {
            String word = token;
            if (word.equals("place") && v.miles.size() == 5 || word.equals("person") && v.people.size() == 6) {
                throw bad(6);
            }
            switch (word) {
                case "place" -> {
                    next();
                    String name = fresh(v);
                    must("at");
                    v.miles.add(number(0, 60));
                    v.placeNames.put(name, v.miles.size() - 1);
                }
                case "person" -> {
                    next();
                    String name = fresh(v);
                    must("purse");
                    Someone p = new Someone();
                    p.purse = number(0, 999);
                    p.child = token.equals("child");
                    if (p.child) {
                        next();
                    }
                    p.bishop = token.equals("bishop");
                    if (p.bishop) {
                        next();
                    }
                    v.people.add(p);
                    v.personNames.put(name, v.people.size() - 1);
                }
                case "twins", "knows" -> {
                    next();
                    int a = named(v.personNames);
                    if (word.equals("twins") && v.people.get(a).twin >= 0) {
                        throw bad(5);
                    }
                    next();
                    int b = named(v.personNames);
                    if (a == b || word.equals("twins") && v.people.get(b).twin >= 0) {
                        throw bad(5);
                    }
                    next();
                    if (word.equals("twins")) {
                        v.people.get(a).twin = b;
                        v.people.get(b).twin = a;
                    } else {
                        v.people.get(a).knows.add(b);
                        v.people.get(b).knows.add(a);
                    }
                }
                case "was" -> {
                    next();
                    int p = passNamed(v.personNames);
                    must("in");
                    int l = passNamed(v.placeNames);
                    must("hour");
                    v.people.get(p).was.put(number(0, 7), l);
                }
                case "base", "more", "speed" -> {
                    if (!rates.add(word)) {
                        throw bad(5);
                    }
                    next();
                    int rate = number(0, word.equals("speed") ? 60 : 99);
                    v.base = word.equals("base") ? rate : v.base;
                    v.more = word.equals("more") ? rate : v.more;
                    v.speed = word.equals("speed") ? rate : v.speed;
                }
                default -> throw bad(2);
            }
            must(";");
        }
        return 0;
    }

    private int told;

    int trials(int n) {
        return (int) ask(() -> {
            between(n, 0, Math.min(tape.size(), 300));
            List<Step> steps = new ArrayList<>();
            parse(n, () -> {
                told = 0;
                parseSteps(steps, 0);
                if (!token.isEmpty()) {
                    throw bad(2);
                }
                return 0;
            });
            w.trials = steps;
            return told;
        });
    }

    private void parseSteps(List<Step> into, int depth) {
        while (!token.isEmpty() && !token.equals("end")) {
            into.add(parseStep(depth));
        }
    }

    private Step parseStep(int depth) {
        String word = token;
        if (!Set.of("swear", "any", "find", "recant", "when", "loop", "stop").contains(word)) {
            throw bad(2);
        }
        told++;
        if (told > 30) {
            throw bad(6);
        }
        boolean block = word.equals("when") || word.equals("loop");
        if (block && depth == 3) {
            throw bad(7);
        }
        next();
        int a = -1;
        int p = -1;
        int l = -1;
        int n = -1;
        char sign = ' ';
        String test = "";
        if (word.equals("swear") || word.equals("any") || word.equals("recant")) {
            a = passNamed(w.personNames);
        }
        if (word.equals("swear") || word.equals("any")) {
            must("says");
        }
        if (word.equals("any")) {
            p = passNamed(w.personNames);
        }
        if (word.equals("loop")) {
            n = number(1, 99);
        }
        if (word.equals("when")) {
            test = token;
            if (!Set.of("till", "purse", "stands").contains(test)) {
                throw bad(2);
            }
            next();
            if (test.equals("purse")) {
                p = passNamed(w.personNames);
            }
            if (!test.equals("stands")) {
                if (!Set.of("<", ">", "=").contains(token)) {
                    throw bad(2);
                }
                sign = token.charAt(0);
                next();
                n = number(0, 9999);
            }
        }
        if (word.equals("swear") || word.equals("find") || test.equals("stands")) {
            p = passNamed(w.personNames);
            must("in");
            l = passNamed(w.placeNames);
            must("hour");
            n = number(0, 7);
        }
        must(";");
        List<Step> within = new ArrayList<>();
        if (block) {
            parseSteps(within, depth + 1);
            must("end");
            must(";");
        }
        return new Step(word, test, a, p, l, n, sign, within);
    }

    int fault(int what) {
        return what == 0 ? faultKind : what == 1 ? faultPlace : -1;
    }

    // ---- asking

    int told(int what) {
        return (int) ask(() -> switch (what) {
            case 0 -> w.miles.size();
            case 1 -> w.people.size();
            case 2 -> w.oaths.size();
            case 3 -> w.standing().size();
            case 4 -> w.standing().stream().filter(o -> !w.isTrue(o)).count();
            case 5 -> w.oaths.stream().filter(o -> o.state == 1).count();
            case 6 -> w.oaths.stream().filter(o -> o.refunded).count();
            case 7 -> w.oaths.stream().filter(o -> o.state == 2).count();
            case 8 -> w.base;
            case 9 -> w.more;
            case 10 -> w.speed;
            case 11 -> w.till;
            default -> throw new Refusal(1);
        });
    }

    int mile(int l) {
        return (int) ask(() -> {
            place(l);
            return w.miles.get(l);
        });
    }

    int person(int p, int what) {
        return (int) ask(() -> {
            person(p);
            between(what, 0, 5);
            Someone x = w.people.get(p);
            need(what != 3 || x.twin >= 0, 6);
            return switch (what) {
                case 0 -> x.purse;
                case 1 -> x.child ? 1 : 0;
                case 2 -> x.bishop ? 1 : 0;
                case 3 -> x.twin;
                case 4 -> w.oaths.stream().filter(o -> o.w == p).count();
                default -> w.oaths.stream().filter(o -> o.w == p && !o.refunded).mapToInt(o -> o.fee).sum();
            };
        });
    }

    private void couple(int a, int b) {
        person(a);
        person(b);
        need(a != b, 1);
    }

    int knows(int a, int b) {
        return (int) ask(() -> {
            couple(a, b);
            return w.people.get(a).knows.contains(b) ? 1 : 0;
        });
    }

    private void spread(int p, Set<Integer> into) {
        if (into.add(p)) {
            for (int q : w.people.get(p).knows) {
                spread(q, into);
            }
        }
    }

    int kin(int p) {
        return (int) ask(() -> {
            person(p);
            Set<Integer> kin = new TreeSet<>();
            spread(p, kin);
            return kin.stream().mapToInt(q -> 1 << q).sum();
        });
    }

    int known(int p, int h) {
        return (int) ask(() -> {
            person(p);
            hour(h);
            need(w.people.get(p).was.containsKey(h), 6);
            return w.people.get(p).was.get(h);
        });
    }

    int oath(int i, int what) {
        return (int) ask(() -> {
            oathThere(i);
            between(what, 0, 7);
            Sworn o = w.oaths.get(i);
            return new int[] {o.w, o.p, o.l, o.h, o.fee, o.state, o.refunded ? 1 : 0, w.isTrue(o) ? 1 : 0}[what];
        });
    }

    int why(int a, int p, int l, int h) {
        return (int) ask(() -> {
            all(a, p, l, h);
            return w.why(a, p, l, h);
        });
    }

    int fee(int a, int p, int l, int h) {
        return (int) ask(() -> {
            all(a, p, l, h);
            return w.fee(a, p, l, h);
        });
    }

    int gainsaid(int a, int p, int l, int h) {
        return (int) ask(() -> {
            all(a, p, l, h);
            return w.gainsaid(a, p, l, h);
        });
    }

    int backed(int p, int l, int h) {
        return (int) ask(() -> {
            all(p, p, l, h);
            return w.standingOf(p).stream().filter(o -> o.l == l && o.h == h).count();
        });
    }

    private static int voidCount(World v) {
        return (int) v.oaths.stream().filter(o -> o.state == 1).count();
    }

    int voids(int a, int p, int l, int h) {
        return (int) ask(() -> {
            all(a, p, l, h);
            need(w.why(a, p, l, h) == 0, 7);
            World v = w.copy();
            v.swear(a, p, l, h, 0);
            return voidCount(v) - voidCount(w);
        });
    }

    int swear(int a, int p, int l, int h) {
        return (int) ask(() -> {
            all(a, p, l, h);
            need(w.why(a, p, l, h) == 0, 7);
            return w.swear(a, p, l, h, 0);
        });
    }

    int find(int p, int l, int h) {
        return (int) ask(() -> {
            all(p, p, l, h);
            return w.find(p, l, h);
        });
    }

    int recant(int i) {
        return (int) ask(() -> {
            oathThere(i);
            need(w.oaths.get(i).state == 0, 7);
            w.oaths.get(i).state = 2;
            return w.standing().size();
        });
    }

    int earn(int p, int much) {
        return (int) ask(() -> {
            person(p);
            between(much, 1, 999);
            need(w.people.get(p).purse + much <= 9999, 7);
            return w.people.get(p).purse += much;
        });
    }

    boolean meet(int a, int b) {
        return may(() -> {
            couple(a, b);
            need(!w.people.get(a).knows.contains(b), 7);
            w.people.get(a).knows.add(b);
            w.people.get(b).knows.add(a);
            return 0;
        });
    }

    boolean ride(int speed) {
        return may(() -> {
            between(speed, 0, 60);
            return w.speed = speed;
        });
    }

    int fits(int a, int b) {
        return (int) ask(() -> {
            oathThere(a);
            oathThere(b);
            Sworn x = w.oaths.get(a);
            Sworn y = w.oaths.get(b);
            return x.p != y.p || w.fit(x.l, x.h, y.l, y.h) ? 1 : 0;
        });
    }

    int road(int a, int b) {
        return (int) ask(() -> {
            place(a);
            place(b);
            if (a == b) {
                return 0;
            }
            for (int hours = 1; hours <= 60; hours++) {
                if (w.fit(a, 0, b, hours)) {
                    return hours;
                }
            }
            throw new Refusal(6);
        });
    }

    int canBe(int p, int h) {
        return (int) ask(() -> {
            person(p);
            hour(h);
            int set = 0;
            for (int i = 0; i < w.miles.size(); i++) {
                int l = i;
                boolean good = w.standingOf(p).stream().allMatch(o -> w.fit(l, h, o.l, o.h))
                    && w.people.get(p).was.entrySet().stream().allMatch(e -> w.fit(l, h, e.getValue(), e.getKey()));
                set += good ? 1 << l : 0;
            }
            return set;
        });
    }

    private int walked;
    private int[] reached;

    /** Every way, one by one. */
    private void walk(int p, boolean oaths, int[] way, int h) {
        if (h == 8) {
            walked++;
            for (int i = 0; i < 8; i++) {
                reached[i] |= 1 << way[i];
            }
            return;
        }
        for (int i = 0; i < w.miles.size(); i++) {
            int l = i;
            boolean good = w.people.get(p).was.getOrDefault(h, l) == l
                && (h == 0 || w.fit(way[h - 1], h - 1, l, h))
                && (!oaths || w.standingOf(p).stream().allMatch(o -> o.h != h || o.l == l));
            if (good) {
                way[h] = l;
                walk(p, oaths, way, h + 1);
            }
        }
    }

    private void walkAll(int p, boolean oaths) {
        walked = 0;
        reached = new int[8];
        walk(p, oaths, new int[8], 0);
    }

    int ways(int p, boolean oaths) {
        return (int) ask(() -> {
            person(p);
            walkAll(p, oaths);
            return walked;
        });
    }

    int reach(int p, int h, boolean oaths) {
        return (int) ask(() -> {
            person(p);
            hour(h);
            walkAll(p, oaths);
            return reached[h];
        });
    }

    private int bestSet(int p) {
        int best = 0;
        for (int set = 0; set < 1 << w.oaths.size(); set++) {
            if (Integer.bitCount(set) > Integer.bitCount(best) && fitsTogether(set, p)) {
                best = set;
            }
        }
        return best;
    }

    private boolean fitsTogether(int set, int p) {
        for (int i = 0; i < w.oaths.size(); i++) {
            Sworn a = w.oaths.get(i);
            if ((set >> i & 1) == 1 && (a.state != 0 || a.p != p)) {
                return false;
            }
            for (int j = 0; j < i; j++) {
                Sworn b = w.oaths.get(j);
                if ((set >> i & 1) == 1 && (set >> j & 1) == 1 && !w.fit(a.l, a.h, b.l, b.h)) {
                    return false;
                }
            }
        }
        return true;
    }

    int mostTrue(int p) {
        return (int) ask(() -> {
            person(p);
            return Integer.bitCount(bestSet(p));
        });
    }

    int mostTrueSet(int p) {
        return (int) ask(() -> {
            person(p);
            return bestSet(p);
        });
    }

    int clashes(int p) {
        return (int) ask(() -> {
            person(p);
            int n = 0;
            for (Sworn a : w.standingOf(p)) {
                for (Sworn b : w.standingOf(p)) {
                    n += w.fit(a.l, a.h, b.l, b.h) ? 0 : 1;
                }
            }
            return n / 2;
        });
    }

    int doubt(int p) {
        return (int) ask(() -> {
            person(p);
            return w.doubt(p);
        });
    }

    int believed(int p, int h) {
        return (int) ask(() -> {
            person(p);
            hour(h);
            int[] votes = new int[5];
            w.standingOf(p).stream().filter(o -> o.h == h).forEach(o -> votes[o.l]++);
            int most = Arrays.stream(votes).max().getAsInt();
            need(most > 0, 6);
            int l = 0;
            while (votes[l] != most) {
                l++;
            }
            return l;
        });
    }

    int alibi(int p, int l, int h, int n) {
        return (int) ask(() -> {
            all(p, p, l, h);
            between(n, 1, 6);
            int best = -1;
            int[] by = null;
            for (int q = 0; q < w.miles.size(); q++) {
                for (int set = 0; set < 64; set++) {
                    int fees = q == l || Integer.bitCount(set) != n ? -1 : tryAlibi(p, q, h, set);
                    if (fees >= 0 && (best < 0 || fees < best)) {
                        best = fees;
                        by = new int[] {q, set};
                    }
                }
            }
            need(best >= 0, 6);
            alibi = by;
            return best;
        });
    }

    private int tryAlibi(int p, int q, int h, int set) {
        World v = w.copy();
        List<Sworn> must = new ArrayList<>();
        for (Sworn o : v.standing()) {
            if ((set >> o.w & 1) == 1) {
                must.add(o);
            }
        }
        int fees = 0;
        for (int a = 0; a < 6; a++) {
            if ((set >> a & 1) == 0) {
                continue;
            }
            if (a >= v.people.size() || v.why(a, p, q, h) != 0) {
                return -1;
            }
            Sworn o = v.oaths.get(v.swear(a, p, q, h, 0));
            must.add(o);
            fees += o.fee;
        }
        return must.stream().allMatch(o -> o.state == 0) ? fees : -1;
    }

    int alibiBy(int what) {
        return (int) ask(() -> {
            between(what, 0, 1);
            need(alibi != null, 6);
            return alibi[what];
        });
    }

    int call(int a, int p) {
        return (int) ask(() -> {
            person(a);
            person(p);
            int most = -1;
            int[] by = null;
            for (int[] hl : w.sayable(a, p)) {
                World v = w.copy();
                v.swear(a, p, hl[1], hl[0], 0);
                int n = 0;
                for (int i = 0; i < w.oaths.size(); i++) {
                    n += v.oaths.get(i).state != w.oaths.get(i).state && v.oaths.get(i).w != a ? 1 : 0;
                }
                int fee = w.fee(a, p, hl[1], hl[0]);
                if (n > most || n == most && fee < by[2]) {
                    most = n;
                    by = new int[] {hl[1], hl[0], fee};
                }
            }
            need(by != null, 6);
            called = by;
            return most;
        });
    }

    int callBy(int what) {
        return (int) ask(() -> {
            between(what, 0, 2);
            need(called != null, 6);
            return called[what];
        });
    }

    int sayable(int a, int p) {
        return (int) ask(() -> {
            person(a);
            person(p);
            return w.sayable(a, p).size();
        });
    }

    int dearest(int a, int p) {
        return (int) ask(() -> {
            person(a);
            person(p);
            List<int[]> can = w.sayable(a, p);
            need(!can.isEmpty(), 6);
            return can.stream().mapToInt(hl -> w.fee(a, p, hl[1], hl[0])).max().getAsInt();
        });
    }

    private int firstMost(int[] counts) {
        int best = -1;
        int most = 0;
        for (int i = 0; i < counts.length; i++) {
            if (counts[i] > most) {
                most = counts[i];
                best = i;
            }
        }
        need(best >= 0, 6);
        return best;
    }

    int liar() {
        return (int) ask(() -> {
            int[] lies = new int[6];
            w.standing().stream().filter(o -> !w.isTrue(o)).forEach(o -> lies[o.w]++);
            return firstMost(lies);
        });
    }

    int doubted() {
        return (int) ask(() -> {
            int[] doubts = new int[w.people.size()];
            for (int i = 0; i < doubts.length; i++) {
                doubts[i] = w.doubt(i);
            }
            return firstMost(doubts);
        });
    }

    boolean kept() {
        return may(() -> {
            int paidAll = w.oaths.stream().mapToInt(o -> o.fee).sum();
            need(paidAll > 0, 6);
            fraction(w.till, paidAll);
            return 0;
        });
    }

    int word(int a, int what) {
        return (int) ask(() -> {
            person(a);
            between(what, 0, 2);
            return w.oaths.stream().filter(o -> o.w == a
                && (what == 2 ? o.state == 1 : o.state == 0 && w.isTrue(o) == (what == 0))).count();
        });
    }

    int liars(int p) {
        return (int) ask(() -> {
            person(p);
            Set<Integer> who = new TreeSet<>();
            w.standingOf(p).stream().filter(o -> !w.isTrue(o)).forEach(o -> who.add(o.w));
            return who.stream().mapToInt(q -> 1 << q).sum();
        });
    }

    private long[] bids(int tray, int n) {
        between(tray, 0, 3);
        between(n, 1, 60);
        need(trays[tray] != null, 2);
        need(n <= trays[tray].length, 3);
        long[] bids = Arrays.copyOf(trays[tray], n);
        for (long bid : bids) {
            need(bid >= 0 && bid <= 999999, 5);
        }
        return bids;
    }

    int auction(int tray, int n) {
        return (int) ask(() -> {
            long[] bids = bids(tray, n);
            long most = Arrays.stream(bids).max().getAsLong();
            need(Arrays.stream(bids).filter(b -> b == most).count() == 1, 6);
            int i = 0;
            while (bids[i] != most) {
                i++;
            }
            return i;
        });
    }

    int hammer(int tray, int n) {
        return (int) ask(() -> {
            long[] bids = bids(tray, n);
            Arrays.sort(bids);
            return n == 1 ? 0 : bids[n - 2];
        });
    }

    // ---- TRIALS

    private void liveIn(World v, int seed, int number) {
        s = seed;
        steps = 0;
        missed = 0;
        sworn = 0;
        paid = 0;
        left = false;
        stopped = false;
        run = number;
        doAll(v, v.trials);
    }

    private void doAll(World v, List<Step> list) {
        for (Step step : list) {
            if (left || stopped) {
                return;
            }
            if (steps == 300) {
                left = true;
                return;
            }
            steps++;
            doOne(v, step);
        }
    }

    private void doOne(World v, Step t) {
        switch (t.word) {
            case "swear" -> {
                if (v.why(t.a, t.p, t.l, t.n) != 0) {
                    missed++;
                } else {
                    swearIn(v, t.a, t.p, t.l, t.n);
                }
            }
            case "any" -> {
                List<int[]> can = v.sayable(t.a, t.p);
                if (can.isEmpty()) {
                    missed++;
                } else {
                    s = (int) ((s * 2953L + 11149L) % 65536L);
                    int[] hl = can.get((int) Math.floor(s / 8.0) % can.size());
                    swearIn(v, t.a, t.p, hl[1], hl[0]);
                }
            }
            case "find" -> v.find(t.p, t.l, t.n);
            case "recant" -> {
                List<Sworn> own = v.standing().stream().filter(o -> o.w == t.a).toList();
                if (own.isEmpty()) {
                    missed++;
                } else {
                    own.get(own.size() - 1).state = 2;
                }
            }
            case "when" -> {
                if (holds(v, t)) {
                    doAll(v, t.within);
                }
            }
            case "loop" -> {
                for (int i = 0; i < t.n; i++) {
                    doAll(v, t.within);
                }
            }
            default -> stopped = true;
        }
    }

    private void swearIn(World v, int a, int p, int l, int h) {
        sworn++;
        paid += v.oaths.get(v.swear(a, p, l, h, run)).fee;
    }

    private boolean holds(World v, Step t) {
        if (t.test.equals("stands")) {
            return v.standingOf(t.p).stream().anyMatch(o -> o.l == t.l && o.h == t.n);
        }
        int value = t.test.equals("till") ? v.till : v.people.get(t.p).purse;
        return t.sign == '<' ? value < t.n : t.sign == '>' ? value > t.n : value == t.n;
    }

    int live(int seed) {
        return (int) ask(() -> {
            between(seed, 0, 9999);
            need(w.trials != null, 6);
            lives++;
            liveIn(w, seed, lives);
            lived = new int[] {missed, sworn, 0, paid, left ? 1 : 0};
            return steps;
        });
    }

    int lived(int what) {
        return (int) ask(() -> {
            between(what, 0, 4);
            need(lived != null, 6);
            return what == 2 ? w.oaths.stream().filter(o -> o.live == lives && o.state == 1).count() : lived[what];
        });
    }

    boolean mean(int seed, int many) {
        return may(() -> {
            between(seed, 0, 9999);
            between(many, 1, 20);
            need(seed + many <= 10000, 1);
            need(w.trials != null, 6);
            long sum = 0;
            for (int i = 0; i < many; i++) {
                World v = w.copy();
                liveIn(v, seed + i, 0);
                sum += v.till;
            }
            fraction(sum, many);
            return 0;
        });
    }

    int mark() {
        return (int) ask(() -> {
            need(marks.size() < 3, 4);
            marks.push(w.copy());
            return marks.size();
        });
    }

    int undo() {
        return (int) ask(() -> {
            need(!marks.isEmpty(), 6);
            w = marks.pop();
            return marks.size();
        });
    }
}
