import java.util.ArrayList;
import java.util.HashSet;
import java.util.List;
import java.util.Set;

/**
 * The document told a second time, as literally and as slowly as may be: lists, copies, a day at a time.
 * ModelTests compares ApprovalRoutes with it. It shares no code and no short cut with the class.
 */
public final class PlainModel {
    record Post(int upper, int[] limits) {}

    record Hold(int post, int person, int from, int to) {}

    record Away(int person, int from, int to) {}

    record Stand(int giver, int taker, int from, int to, int cap) {}

    record Foe(int person, int vendor) {}

    record Ask(int person, int post, int vendor, int kind, int amount, int day, int recalled) {
        Ask recalledOn(int on) {
            return new Ask(person, post, vendor, kind, amount, day, on);
        }

        Ask withAmount(int other) {
            return new Ask(person, post, vendor, kind, other, day, recalled);
        }

        Ask withPost(int other) {
            return new Ask(person, other, vendor, kind, amount, day, recalled);
        }

        Ask withDay(int other) {
            return new Ask(person, post, vendor, kind, amount, other, recalled);
        }
    }

    /** All but tape and shelves. */
    static final class All {
        List<Post> posts = new ArrayList<>();
        List<Hold> holds = new ArrayList<>();
        List<Away> aways = new ArrayList<>();
        List<Stand> stands = new ArrayList<>();
        List<Foe> foes = new ArrayList<>();
        List<Ask> asks = new ArrayList<>();
        int[] sets = {0, 1, 2};

        All copy() {
            All all = new All();
            for (Post p : posts) {
                all.posts.add(new Post(p.upper, p.limits.clone()));
            }
            all.holds.addAll(holds);
            all.aways.addAll(aways);
            all.stands.addAll(stands);
            all.foes.addAll(foes);
            all.asks.addAll(asks);
            all.sets = sets.clone();
            return all;
        }
    }

    record Decision(int person, int limit, int reason, List<Integer> line) {}

    record Step(int post, int day, int person, int limit, int result, List<Integer> line) {}

    private All all = new All();
    private final List<All> undo = new ArrayList<>();
    private final All[] shelves = new All[2];
    private final List<Integer> tape = new ArrayList<>();

    private static boolean in(int x, int low, int high) {
        return low <= x && x <= high;
    }

    private static boolean days(int from, int to) {
        return in(from, 0, 999) && in(to, 0, 999) && from <= to;
    }

    private boolean isPost(int p) {
        return in(p, 0, all.posts.size() - 1);
    }

    private boolean isAsk(int r) {
        return in(r, 0, all.asks.size() - 1);
    }

    private void act() {
        undo.add(all.copy());
        if (undo.size() > 10) {
            undo.remove(0);
        }
    }

    // ---- tape ----

    public int feed(int a, int b, int c, int d, int e) {
        if (tape.size() > 380) {
            return -1;
        }
        for (int x : new int[] {a, b, c, d, e}) {
            tape.add(x >>> 24);
            tape.add((x >>> 16) & 255);
            tape.add((x >>> 8) & 255);
            tape.add(x & 255);
        }
        return tape.size();
    }

    public int end(int n) {
        if (n < 0 || n > tape.size()) {
            return -1;
        }
        while (tape.size() > n) {
            tape.remove(tape.size() - 1);
        }
        return n;
    }

    public int tell() {
        StringBuilder text = new StringBuilder();
        for (int b : tape) {
            text.append((char) b);
        }
        tape.clear();
        All told = new All();
        int fault = parse(text.toString(), told);
        if (fault >= 0) {
            return -2 - fault;
        }
        all = told;
        undo.clear();
        return all.posts.size();
    }

    record Token(int place, String text) {
        boolean isNumber() {
            return !text.isEmpty() && Character.isDigit(text.charAt(0)) && text.charAt(0) < 128;
        }

        long value() {
            return new java.math.BigInteger(text).min(java.math.BigInteger.valueOf(1000000)).longValue();
        }
    }

    private static List<Token> tokens(String text) {
        List<Token> tokens = new ArrayList<>();
        java.util.regex.Matcher m = java.util.regex.Pattern.compile("[a-z]+|[0-9]+|[^ ]", java.util.regex.Pattern.DOTALL).matcher(text);
        while (m.find()) {
            tokens.add(new Token(m.start(), m.group()));
        }
        tokens.add(new Token(text.length(), ""));
        return tokens;
    }

    /** -1 if it is one, else the fault. */
    private static int parse(String text, All told) {
        List<Token> tokens = tokens(text);
        if (tokens.size() == 1) {
            return -1;
        }
        Set<String> singles = new HashSet<>();
        int at = 0;
        while (true) {
            Token word = tokens.get(at++);
            int[] tops;
            int room;
            switch (word.text) {
                case "post" -> { tops = new int[] {told.posts.size() - 1, 9999, 9999, 9999}; room = 12 - told.posts.size(); }
                case "hold" -> { tops = new int[] {told.posts.size() - 1, 15, 999, 999}; room = 24 - told.holds.size(); }
                case "away" -> { tops = new int[] {15, 999, 999}; room = 24 - told.aways.size(); }
                case "stand" -> { tops = new int[] {15, 15, 999, 999, 9999}; room = 24 - told.stands.size(); }
                case "foe" -> { tops = new int[] {15, 9}; room = 16 - told.foes.size(); }
                case "window" -> { tops = new int[] {99}; room = singles.add(word.text) ? 1 : 0; }
                case "pace" -> { tops = new int[] {9}; room = singles.add(word.text) ? 1 : 0; }
                case "wait" -> { tops = new int[] {30}; room = singles.add(word.text) ? 1 : 0; }
                default -> { return 8 * word.place + 1; }
            }
            if (room <= 0) {
                return 8 * word.place + 3;
            }
            int[] n = new int[tops.length];
            for (int i = 0; i < n.length; i++) {
                Token t = tokens.get(at++);
                if (i == 0 && word.text.equals("post") && t.text.equals("top")) {
                    n[i] = -2;
                    continue;
                }
                if (!t.isNumber()) {
                    return 8 * t.place + 1;
                }
                boolean good = t.value() <= tops[i];
                boolean toDay = (word.text.equals("hold") && i == 3) || (word.text.equals("away") && i == 2)
                        || (word.text.equals("stand") && i == 3);
                if (toDay && t.value() < n[i - 1]) {
                    good = false;
                }
                if (word.text.equals("stand") && i == 1 && t.value() == n[0]) {
                    good = false;
                }
                if (!good) {
                    return 8 * t.place + 2;
                }
                n[i] = (int) t.value();
            }
            switch (word.text) {
                case "post" -> told.posts.add(new Post(n[0], new int[] {n[1], n[2], n[3]}));
                case "hold" -> told.holds.add(new Hold(n[0], n[1], n[2], n[3]));
                case "away" -> told.aways.add(new Away(n[0], n[1], n[2]));
                case "stand" -> told.stands.add(new Stand(n[0], n[1], n[2], n[3], n[4]));
                case "foe" -> told.foes.add(new Foe(n[0], n[1]));
                case "window" -> told.sets[0] = n[0];
                case "pace" -> told.sets[1] = n[0];
                default -> told.sets[2] = n[0];
            }
            Token next = tokens.get(at++);
            if (next.text.isEmpty()) {
                return -1;
            }
            if (!next.text.equals(";")) {
                return 8 * next.place + 1;
            }
        }
    }

    // ---- acts ----

    public int request(int person, int post, int which, int amount, int day) {
        if (!in(person, 0, 15) || !isPost(post) || !in(which, 0, 29) || !in(amount, 1, 9999) || !in(day, 0, 999)) {
            return -1;
        }
        if (all.asks.size() == 40) {
            return -2;
        }
        act();
        all.asks.add(new Ask(person, post, which % 10, which / 10, amount, day, -2));
        return all.asks.size() - 1;
    }

    public int recall(int request, int day) {
        if (!isAsk(request) || !in(day, 0, 999) || day < all.asks.get(request).day) {
            return -1;
        }
        if (all.asks.get(request).recalled != -2) {
            return -2;
        }
        Step last = lastStep(routeOf(request));
        if (last.result == 0 && last.day <= day) {
            return -3;
        }
        act();
        all.asks.set(request, all.asks.get(request).recalledOn(day));
        return 1;
    }

    public int amend(int request, int amount, int day) {
        if (!isAsk(request) || !in(day, 0, 999) || day < all.asks.get(request).day || !in(amount, 1, 9999)) {
            return -1;
        }
        if (all.asks.get(request).recalled != -2 || all.asks.size() == 40) {
            return -2;
        }
        Step last = lastStep(routeOf(request));
        if (last.result == 0 && last.day <= day) {
            return -3;
        }
        act();
        Ask old = all.asks.get(request);
        all.asks.set(request, old.recalledOn(day));
        all.asks.add(old.withAmount(amount).withDay(day));
        return all.asks.size() - 1;
    }

    public int hold(int post, int person, int from, int to) {
        if (!isPost(post) || !in(person, 0, 15) || !days(from, to)) {
            return -1;
        }
        if (all.holds.size() == 24) {
            return -2;
        }
        act();
        all.holds.add(new Hold(post, person, from, to));
        return all.holds.size() - 1;
    }

    public int away(int person, int from, int to) {
        if (!in(person, 0, 15) || !days(from, to)) {
            return -1;
        }
        if (all.aways.size() == 24) {
            return -2;
        }
        act();
        all.aways.add(new Away(person, from, to));
        return all.aways.size() - 1;
    }

    public int stand(int giver, int taker, int from, int to, int cap) {
        if (!in(giver, 0, 15) || !in(taker, 0, 15) || giver == taker || !days(from, to) || !in(cap, 0, 9999)) {
            return -1;
        }
        if (all.stands.size() == 24) {
            return -2;
        }
        act();
        all.stands.add(new Stand(giver, taker, from, to, cap));
        return all.stands.size() - 1;
    }

    public int foe(int person, int vendor) {
        if (!in(person, 0, 15) || !in(vendor, 0, 9)) {
            return -1;
        }
        if (all.foes.size() == 16 || all.foes.contains(new Foe(person, vendor))) {
            return -2;
        }
        act();
        all.foes.add(new Foe(person, vendor));
        return all.foes.size() - 1;
    }

    private List<?> entries(int kind) {
        return switch (kind) {
            case 0 -> all.holds;
            case 1 -> all.aways;
            case 2 -> all.stands;
            case 3 -> all.foes;
            default -> List.of();
        };
    }

    public int drop(int kind, int k) {
        if (!in(k, 0, entries(kind).size() - 1)) {
            return -1;
        }
        act();
        entries(kind).remove(k);
        return entries(kind).size();
    }

    public int limit(int post, int kind, int limit) {
        if (!isPost(post) || !in(kind, 0, 2) || !in(limit, 0, 9999)) {
            return -1;
        }
        int was = all.posts.get(post).limits[kind];
        if (was == limit) {
            return -2;
        }
        act();
        all.posts.get(post).limits[kind] = limit;
        return was;
    }

    public int set(int what, int value) {
        int top = what == 0 ? 99 : what == 1 ? 9 : what == 2 ? 30 : -1;
        if (!in(value, 0, top)) {
            return -1;
        }
        int was = all.sets[what];
        if (was == value) {
            return -2;
        }
        act();
        all.sets[what] = value;
        return was;
    }

    public int undo() {
        if (undo.isEmpty()) {
            return -1;
        }
        all = undo.remove(undo.size() - 1);
        return undo.size();
    }

    public int keep(int shelf) {
        if (!in(shelf, 0, 1)) {
            return -1;
        }
        shelves[shelf] = all.copy();
        return all.asks.size();
    }

    public int back(int shelf) {
        if (!in(shelf, 0, 1)) {
            return -1;
        }
        if (shelves[shelf] == null) {
            return -2;
        }
        all = shelves[shelf].copy();
        undo.clear();
        return all.asks.size();
    }

    // ---- who decides, routes ----

    private Set<Integer> joinedWith(int number, Ask ask) {
        Set<Integer> joined = new HashSet<>();
        boolean more = true;
        while (more) {
            more = false;
            for (int k = 0; k < number; k++) {
                Ask other = all.asks.get(k);
                if (joined.contains(k) || other.person != ask.person || other.vendor != ask.vendor || other.kind != ask.kind) {
                    continue;
                }
                if (other.recalled != -2 && other.recalled <= ask.day) {
                    continue;
                }
                boolean near = Math.abs(other.day - ask.day) <= all.sets[0];
                for (int j : joined) {
                    near |= Math.abs(other.day - all.asks.get(j).day) <= all.sets[0];
                }
                if (near) {
                    joined.add(k);
                    more = true;
                }
            }
        }
        return joined;
    }

    private int whole(int number, Ask ask) {
        int sum = ask.amount;
        for (int k : joinedWith(number, ask)) {
            sum += all.asks.get(k).amount;
        }
        return sum;
    }

    private boolean isAway(int person, int day) {
        for (Away a : all.aways) {
            if (a.person == person && in(day, a.from, a.to)) {
                return true;
            }
        }
        return false;
    }

    private int holder(int post, int day) {
        for (Hold h : all.holds) {
            if (h.post == post && in(day, h.from, h.to)) {
                return h.person;
            }
        }
        return -1;
    }

    private Decision decision(int post, int day, int person, int vendor, int kind) {
        int holder = holder(post, day);
        if (holder < 0) {
            return new Decision(-2, -2, 2, List.of());
        }
        Decision d = askOne(holder, all.posts.get(post).limits[kind], new HashSet<>(), List.of(), day, person, vendor);
        if (d != null) {
            return d;
        }
        int reason = holder == person ? 4 : isAway(holder, day) ? 3 : 5;
        return new Decision(-2, -2, reason, List.of());
    }

    private Decision askOne(int one, int limit, Set<Integer> asked, List<Integer> before, int day, int person, int vendor) {
        asked.add(one);
        List<Integer> line = new ArrayList<>(before);
        line.add(one);
        if (one == person) {
            return null;
        }
        if (!isAway(one, day) && !all.foes.contains(new Foe(one, vendor))) {
            return new Decision(one, limit, 0, line);
        }
        for (Stand s : all.stands) {
            if (s.giver == one && in(day, s.from, s.to) && !asked.contains(s.taker)) {
                Decision d = askOne(s.taker, Math.min(limit, s.cap), asked, line, day, person, vendor);
                if (d != null) {
                    return d;
                }
            }
        }
        return null;
    }

    private Step stepAt(int post, int day, Ask ask, int whole) {
        int last = Math.min(999, day + all.sets[2]);
        for (int d = day; d <= last; d++) {
            Decision decision = decision(post, d, ask.person, ask.vendor, ask.kind);
            if (decision.person >= 0) {
                return new Step(post, d, decision.person, decision.limit, decision.limit >= whole ? 0 : 1, decision.line);
            }
        }
        return new Step(post, last, -2, -2, decision(post, day, ask.person, ask.vendor, ask.kind).reason, List.of());
    }

    private List<Step> route(Ask ask, int whole) {
        List<Step> steps = new ArrayList<>();
        int post = ask.post;
        int day = ask.day;
        while (post >= 0 && day <= 999) {
            Step step = stepAt(post, day, ask, whole);
            steps.add(step);
            if (step.result == 0) {
                break;
            }
            post = all.posts.get(post).upper;
            day = step.day + all.sets[1];
        }
        return steps;
    }

    private List<Step> routeOf(int number) {
        Ask ask = all.asks.get(number);
        return route(ask, whole(number, ask));
    }

    private static Step lastStep(List<Step> steps) {
        return steps.get(steps.size() - 1);
    }

    private static int told(List<Step> steps, int what) {
        Step last = lastStep(steps);
        return switch (what) {
            case 0 -> last.result == 0 ? 1 : 2;
            case 1 -> last.day;
            default -> last.result == 0 ? last.person : -2;
        };
    }

    // ---- questions ----

    public int post(int post, int what) {
        if (!isPost(post)) {
            return -1;
        }
        Post p = all.posts.get(post);
        switch (what) {
            case 0: return p.upper;
            case 1: case 2: case 3: return p.limits[what - 1];
            case 4: {
                int n = 0;
                for (int u = p.upper; u >= 0; u = all.posts.get(u).upper) {
                    n++;
                }
                return n;
            }
            case 5: return (int) all.posts.stream().filter(q -> q.upper == post).count();
            default: return -1;
        }
    }

    private int[] row(int kind, int k) {
        switch (kind) {
            case 0: { Hold h = all.holds.get(k); return new int[] {h.post, h.person, h.from, h.to}; }
            case 1: { Away a = all.aways.get(k); return new int[] {a.person, a.from, a.to}; }
            case 2: { Stand s = all.stands.get(k); return new int[] {s.giver, s.taker, s.from, s.to, s.cap}; }
            default: { Foe f = all.foes.get(k); return new int[] {f.person, f.vendor}; }
        }
    }

    public int entry(int kind, int k, int what) {
        if (!in(kind, 0, 3) || !in(k, 0, entries(kind).size() - 1) || !in(what, 0, row(kind, k).length - 1)) {
            return -1;
        }
        return row(kind, k)[what];
    }

    public int asked(int request, int what) {
        if (!isAsk(request)) {
            return -1;
        }
        Ask a = all.asks.get(request);
        return switch (what) {
            case 0 -> a.person;
            case 1 -> a.post;
            case 2 -> a.vendor;
            case 3 -> a.kind;
            case 4 -> a.amount;
            case 5 -> a.day;
            case 6 -> a.recalled;
            case 7 -> whole(request, a);
            case 8 -> joinedWith(request, a).size();
            default -> -1;
        };
    }

    public long joined(int request) {
        if (!isAsk(request)) {
            return -1;
        }
        long bits = 0;
        for (int k : joinedWith(request, all.asks.get(request))) {
            bits |= 1L << k;
        }
        return bits;
    }

    public int step(int request, int k, int what) {
        if (!isAsk(request)) {
            return -1;
        }
        List<Step> steps = routeOf(request);
        if (k == -1 && what == 0) {
            return steps.size();
        }
        if (!in(k, 0, steps.size() - 1)) {
            return -1;
        }
        Step s = steps.get(k);
        return switch (what) {
            case 0 -> s.post;
            case 1 -> s.day;
            case 2 -> s.person;
            case 3 -> s.limit;
            case 4 -> s.result;
            case 5 -> s.person < 0 ? -2 : s.line.size() - 1;
            default -> -1;
        };
    }

    public int chain(int request, int k, int i) {
        if (!isAsk(request) || i < 0) {
            return -1;
        }
        List<Step> steps = routeOf(request);
        if (!in(k, 0, steps.size() - 1)) {
            return -1;
        }
        List<Integer> line = steps.get(k).line;
        return i < line.size() ? line.get(i) : -2;
    }

    public int ends(int request, int what) {
        if (!isAsk(request) || !in(what, 0, 3)) {
            return -1;
        }
        List<Step> steps = routeOf(request);
        int recalled = all.asks.get(request).recalled;
        if (what == 3) {
            return lastStep(steps).post;
        }
        if (recalled != -2) {
            return what == 0 ? 3 : what == 1 ? recalled : -2;
        }
        return told(steps, what);
    }

    public int decides(int post, int day, int person, int which) {
        if (!isPost(post) || !in(day, 0, 999) || !in(person, -1, 15) || !in(which, 0, 29)) {
            return -1;
        }
        Decision d = decision(post, day, person, which % 10, which / 10);
        return d.person >= 0 ? d.person : -2 - d.reason;
    }

    public int power(int person, int day, int kind) {
        if (!in(person, 0, 15) || !in(day, 0, 999) || !in(kind, 0, 2)) {
            return -1;
        }
        int best = -2;
        for (int p = 0; p < all.posts.size(); p++) {
            Decision d = decision(p, day, -1, -1, kind);
            if (d.person == person) {
                best = Math.max(best, d.limit);
            }
        }
        return best;
    }

    public int ring(int day) {
        if (!in(day, 0, 999)) {
            return -1;
        }
        boolean[][] reach = new boolean[16][16];
        for (Stand s : all.stands) {
            if (in(day, s.from, s.to)) {
                reach[s.giver][s.taker] = true;
            }
        }
        for (int m = 0; m < 16; m++) {
            for (int a = 0; a < 16; a++) {
                for (int b = 0; b < 16; b++) {
                    reach[a][b] |= reach[a][m] && reach[m][b];
                }
            }
        }
        int bits = 0;
        for (int a = 0; a < 16; a++) {
            bits |= reach[a][a] ? 1 << a : 0;
        }
        return bits;
    }

    public int split(int request) {
        if (!isAsk(request)) {
            return -1;
        }
        Ask ask = all.asks.get(request);
        List<Step> alone = route(ask, ask.amount);
        List<Step> whole = routeOf(request);
        if (lastStep(alone).result != 0) {
            return 0;
        }
        return lastStep(whole).result != 0 || whole.size() > alone.size() ? 1 : 0;
    }

    public int without(int request, int person, int what) {
        if (!isAsk(request) || !in(person, 0, 15) || !in(what, 0, 2)) {
            return -1;
        }
        return told(routeWithout(request, person), what);
    }

    private List<Step> routeWithout(int request, int person) {
        All kept = all;
        all = all.copy();
        all.aways.add(new Away(person, 0, 999));
        List<Step> steps = routeOf(request);
        all = kept;
        return steps;
    }

    public int cure(int request, int what) {
        if (!isAsk(request) || !in(what, 0, 1)) {
            return -1;
        }
        int best = -2;
        int day = 1000;
        for (int k = 0; k < all.aways.size(); k++) {
            All kept = all;
            all = all.copy();
            all.aways.remove(k);
            List<Step> steps = routeOf(request);
            all = kept;
            if (lastStep(steps).result == 0 && lastStep(steps).day < day) {
                day = lastStep(steps).day;
                best = k;
            }
        }
        return best < 0 ? -2 : what == 0 ? best : day;
    }

    public int most(int request, int up) {
        if (!isAsk(request) || !in(up, 0, post(all.asks.get(request).post, 4))) {
            return -1;
        }
        // The outcome changes with the amount only where the whole passes a limit or a cap.
        Ask ask = all.asks.get(request);
        int others = whole(request, ask) - ask.amount;
        Set<Integer> tried = new HashSet<>(List.of(1, 9999));
        for (Post p : all.posts) {
            for (int limit : p.limits) {
                tried.add(limit - others);
            }
        }
        for (Stand s : all.stands) {
            tried.add(s.cap - others);
        }
        int best = -2;
        for (int t : tried) {
            for (int amount = t - 1; amount <= t + 1; amount++) {
                if (in(amount, 1, 9999)) {
                    List<Step> steps = route(ask, others + amount);
                    if (lastStep(steps).result == 0 && steps.size() <= up + 1) {
                        best = Math.max(best, amount);
                    }
                }
            }
        }
        return best;
    }

    public int load(int person, int what) {
        if (!in(person, 0, 15) || !in(what, 0, 2)) {
            return -1;
        }
        int n = 0;
        for (int r = 0; r < all.asks.size(); r++) {
            if (all.asks.get(r).recalled != -2) {
                continue;
            }
            for (Step s : routeOf(r)) {
                if (s.person == person && (what == 0 || (what == 1 && s.result == 0) || (what == 2 && s.line.size() > 1))) {
                    n++;
                }
            }
        }
        return n;
    }

    public int busiest(int what) {
        if (!in(what, 0, 1)) {
            return -1;
        }
        int best = -2;
        int most = 0;
        for (int p = 0; p < 16; p++) {
            if (load(p, 0) > most) {
                most = load(p, 0);
                best = p;
            }
        }
        return best < 0 ? -2 : what == 0 ? best : most;
    }

    public int approved(int what) {
        int n = 0;
        int sum = 0;
        int days = -2;
        int which = -2;
        for (int r = 0; r < all.asks.size(); r++) {
            if (ends(r, 0) == 1) {
                n++;
                sum += all.asks.get(r).amount;
                int took = ends(r, 1) - all.asks.get(r).day;
                if (took > days) {
                    days = took;
                    which = r;
                }
            }
        }
        return what == 0 ? n : what == 1 ? sum : what == 2 ? days : what == 3 ? which : -1;
    }

    public int could(int request) {
        if (!isAsk(request)) {
            return -1;
        }
        Ask a = all.asks.get(request);
        int bits = 0;
        for (int p = a.post; p >= 0; p = all.posts.get(p).upper) {
            Decision d = decision(p, a.day, a.person, a.vendor, a.kind);
            if (d.person >= 0 && d.limit >= whole(request, a)) {
                bits |= 1 << d.person;
            }
        }
        return bits;
    }

    public int manned(int post, int from, int to, int what) {
        if (!isPost(post) || !days(from, to) || !in(what, 0, 1)) {
            return -1;
        }
        int n = 0;
        for (int d = from; d <= to; d++) {
            if (what == 0 ? holder(post, d) >= 0 : decision(post, d, -1, -1, 0).person >= 0) {
                n++;
            }
        }
        return n;
    }

    public int letter(int k) {
        List<String> parts = new ArrayList<>();
        for (Post p : all.posts) {
            parts.add("post " + (p.upper < 0 ? "top" : "" + p.upper) + " " + p.limits[0] + " " + p.limits[1] + " " + p.limits[2]);
        }
        String[] words = {"hold", "away", "stand", "foe"};
        for (int kind = 0; kind < 4; kind++) {
            for (int j = 0; j < entries(kind).size(); j++) {
                StringBuilder part = new StringBuilder(words[kind]);
                for (int x : row(kind, j)) {
                    part.append(" ").append(x);
                }
                parts.add(part.toString());
            }
        }
        if (all.sets[0] != 0) {
            parts.add("window " + all.sets[0]);
        }
        if (all.sets[1] != 1) {
            parts.add("pace " + all.sets[1]);
        }
        if (all.sets[2] != 2) {
            parts.add("wait " + all.sets[2]);
        }
        String text = String.join(";", parts);
        return k < -1 ? -1 : k == -1 ? text.length() : k < text.length() ? text.charAt(k) : -2;
    }

    public int soonest(int request, int from, int to, int what) {
        if (!isAsk(request) || !days(from, to) || to > from + 60 || !in(what, 0, 1)) {
            return -1;
        }
        int best = -2;
        int day = 1000;
        for (int d = from; d <= to; d++) {
            Ask moved = all.asks.get(request).withDay(d);
            Step last = lastStep(route(moved, whole(request, moved)));
            if (last.result == 0 && last.day < day) {
                best = d;
                day = last.day;
            }
        }
        return best < 0 ? -2 : what == 0 ? best : day;
    }

    public int instead(int request, int post, int what) {
        if (!isAsk(request) || !isPost(post) || !in(what, 0, 2)) {
            return -1;
        }
        Ask ask = all.asks.get(request);
        return told(route(ask.withPost(post), whole(request, ask)), what);
    }

    public int pillar(int what) {
        if (!in(what, 0, 1)) {
            return -1;
        }
        int best = -2;
        int most = 0;
        for (int p = 0; p < 16; p++) {
            int n = 0;
            for (int r = 0; r < all.asks.size(); r++) {
                if (ends(r, 0) == 1 && lastStep(routeWithout(r, p)).result != 0) {
                    n++;
                }
            }
            if (n > most) {
                most = n;
                best = p;
            }
        }
        return best < 0 ? -2 : what == 0 ? best : most;
    }

    public int gap(int post, int from, int to, int what) {
        if (!isPost(post) || !days(from, to) || !in(what, 0, 2)) {
            return -1;
        }
        int n = 0;
        int first = -2;
        int longest = 0;
        int run = 0;
        for (int d = from; d <= to; d++) {
            if (decision(post, d, -1, -1, 0).person >= 0) {
                run = 0;
            } else {
                n++;
                run++;
                first = first == -2 ? d : first;
                longest = Math.max(longest, run);
            }
        }
        return what == 0 ? n : what == 1 ? first : longest;
    }

    public int dodge(int person, int post, int which, int amount, int day) {
        if (!in(person, 0, 15) || !isPost(post) || !in(which, 0, 29) || !in(amount, 1, 9999) || !in(day, 0, 999)) {
            return -1;
        }
        for (int parts = 1; parts <= 40; parts++) {
            boolean does = true;
            int left = amount;
            for (int i = 0; i < parts; i++) {
                int share = (left + parts - i - 1) / (parts - i);
                left -= share;
                int d = day + i * (all.sets[0] + 1);
                if (share < 1 || d > 999) {
                    does = false;
                    break;
                }
                Ask part = new Ask(person, post, which % 10, which / 10, share, d, -2);
                if (route(part, share).get(0).result != 0) {
                    does = false;
                    break;
                }
            }
            if (does) {
                return parts;
            }
        }
        return -2;
    }

    public int tangle(int day) {
        if (!in(day, 0, 999)) {
            return -1;
        }
        int best = 0;
        for (int p = 0; p < 16; p++) {
            best = Math.max(best, line(p, day, new HashSet<>()));
        }
        return best == 1 ? 0 : best;
    }

    private int line(int person, int day, Set<Integer> passed) {
        passed.add(person);
        int best = 0;
        for (Stand s : all.stands) {
            if (s.giver == person && in(day, s.from, s.to) && !passed.contains(s.taker)) {
                best = Math.max(best, line(s.taker, day, passed));
            }
        }
        passed.remove(person);
        return 1 + best;
    }

    public int count(int what) {
        switch (what) {
            case 0: return all.posts.size();
            case 1: return all.holds.size();
            case 2: return all.aways.size();
            case 3: return all.stands.size();
            case 4: return all.foes.size();
            case 5: case 6: case 7: return all.sets[what - 5];
            case 8: return all.asks.size();
            case 9: return (int) all.asks.stream().filter(a -> a.recalled != -2).count();
            case 10: {
                int n = 0;
                for (int r = 0; r < all.asks.size(); r++) {
                    n += ends(r, 0) == 2 ? 1 : 0;
                }
                return n;
            }
            case 11: return undo.size();
            case 12: return tape.size();
            case 13: return (shelves[0] != null ? 1 : 0) + (shelves[1] != null ? 2 : 0);
            default: return -1;
        }
    }
}
