/**
 * Requests that climb from post to post till someone's limit covers them.
 *
 * <p>Nothing is made behind the constructor: every call works in rows that the object already has.
 */
public final class ApprovalRoutes {
    /** None: what is answered where a call names something that there is not. */
    public static final int NONE = -1;

    private static final int LACKING = -2;
    private static final int TOO_LATE = -3;
    private static final int FREE = 0;

    private static final int DAYS = 1000;
    private static final int PERSONS = 16;
    private static final int VENDORS = 10;
    private static final int KINDS = 3;
    private static final int LARGEST = 9999;
    private static final int MOST_POSTS = 12;
    private static final int MOST_PARTS = 40;
    private static final int MOST_UNDONE = 10;
    private static final int MOST_BYTES = 400;
    private static final int SHELVES = 2;
    private static final int LONGEST_SEARCH = 60;

    // Kinds of rows. The first four are numbered as drop() and entry() number them.
    private static final int HOLD = 0;
    private static final int AWAY = 1;
    private static final int STAND = 2;
    private static final int FOE = 3;
    private static final int POST = 4;
    private static final int REQUEST = 5;
    private static final int ROW_KINDS = 6;
    private static final int[] WIDTH = {4, 3, 5, 2, 4, 7};
    private static final int[] MOST_ROWS = {24, 24, 24, 16, 12, 40};
    private static final int[] ROWS_START = {0, 96, 168, 288, 320, 368};
    private static final int CELLS = 648;
    private static final int[] FROM_COLUMN = {2, 1, 2};

    // Columns, in the order in which entry(), post() and asked() tell them.
    private static final int HOLD_POST = 0;
    private static final int HOLD_PERSON = 1;
    private static final int AWAY_PERSON = 0;
    private static final int GIVER = 0;
    private static final int TAKER = 1;
    private static final int CAP = 4;
    private static final int FOE_PERSON = 0;
    private static final int FOE_VENDOR = 1;
    private static final int UPPER = 0;
    private static final int FIRST_LIMIT = 1;
    private static final int ASKER = 0;
    private static final int ASKED_POST = 1;
    private static final int ASKED_VENDOR = 2;
    private static final int ASKED_KIND = 3;
    private static final int AMOUNT = 4;
    private static final int DAY = 5;
    private static final int RECALLED = 6;

    private static final int WINDOW = 0;
    private static final int PACE = 1;
    private static final int WAIT = 2;
    private static final int SETTINGS = 3;
    private static final int[] FIRST_SETTING = {0, 1, 2};
    private static final int[] HIGHEST_SETTING = {99, 9, 30};

    // Parts of a text: the kinds of rows up to POST, and from here on the settings.
    private static final int SETTING_PART = 6;
    private static final int PARTS = 9;

    private static final int STEP_POST = 0;
    private static final int STEP_DAY = 1;
    private static final int STEP_PERSON = 2;
    private static final int STEP_LIMIT = 3;
    private static final int STEP_RESULT = 4;
    private static final int STEP_DEPTH = 5;
    private static final int STEP_WIDTH = 6;

    private static final int APPROVED = 0;
    private static final int ENDORSED = 1;
    private static final int NO_HOLDER = 2;
    private static final int HOLDER_AWAY = 3;
    private static final int OWN_REQUEST = 4;
    private static final int HOLDER_FOE = 5;

    private static final int ENDS_APPROVED = 1;
    private static final int ENDS_STUCK = 2;
    private static final int ENDS_RECALLED = 3;

    private final State now;
    private final Past past;
    private final State[] shelves;
    private int keptShelves;
    private final Tape tape;
    private final State draft;
    private final Reader reader;
    private final Letter text;
    private final Matter matter;
    private final Desk desk;
    private final Route route;
    private final Web web;
    private final int[] tally;
    private final int[] partLimits;

    /** An order without posts, and no requests. */
    public ApprovalRoutes() {
        now = new State();
        past = new Past();
        shelves = new State[SHELVES];
        for (int shelf = 0; shelf < SHELVES; shelf++) {
            shelves[shelf] = new State();
        }
        keptShelves = 0;
        tape = new Tape();
        draft = new State();
        reader = new Reader(tape, draft);
        text = new Letter();
        matter = new Matter();
        desk = new Desk(now);
        route = new Route(now, desk);
        web = new Web();
        tally = new int[PERSONS];
        partLimits = new int[MOST_PARTS];
    }

    // ---- the tape ----

    public int feed(int a, int b, int c, int d, int e) {
        if (tape.size + 20 > MOST_BYTES) {
            return NONE;
        }
        tape.add(a);
        tape.add(b);
        tape.add(c);
        tape.add(d);
        tape.add(e);
        return tape.size;
    }

    public int end(int n) {
        if (n < 0 || n > tape.size) {
            return NONE;
        }
        tape.size = n;
        return n;
    }

    public int tell() {
        int fault = reader.read();
        tape.size = 0;
        if (fault != 0) {
            return -2 - fault;
        }
        now.copyFrom(draft);
        past.forget();
        return now.sizes[POST];
    }

    // ---- acts ----

    public int request(int person, int post, int which, int amount, int day) {
        if (!isPerson(person) || !now.has(POST, post) || !isWhich(which) || !isAmount(amount) || !isDay(day)) {
            return NONE;
        }
        if (now.isFull(REQUEST)) {
            return LACKING;
        }
        past.remember(now);
        return now.addRequest(person, post, which % VENDORS, which / VENDORS, amount, day);
    }

    public int recall(int request, int day) {
        int refusal = refusalOfRecall(request, day);
        if (refusal != FREE) {
            return refusal;
        }
        past.remember(now);
        now.put(REQUEST, request, RECALLED, day);
        return 1;
    }

    public int amend(int request, int amount, int day) {
        int refusal = refusalOfRecall(request, day);
        if (refusal == NONE || !isAmount(amount)) {
            return NONE;
        }
        if (now.isFull(REQUEST)) {
            return LACKING;
        }
        if (refusal != FREE) {
            return refusal;
        }
        past.remember(now);
        now.put(REQUEST, request, RECALLED, day);
        return now.addRequest(
                now.cell(REQUEST, request, ASKER),
                now.cell(REQUEST, request, ASKED_POST),
                now.cell(REQUEST, request, ASKED_VENDOR),
                now.cell(REQUEST, request, ASKED_KIND),
                amount,
                day);
    }

    public int hold(int post, int person, int from, int to) {
        if (!now.has(POST, post) || !isPerson(person) || !areDays(from, to)) {
            return NONE;
        }
        return addEntry(HOLD, post, person, from, to, 0);
    }

    public int away(int person, int from, int to) {
        if (!isPerson(person) || !areDays(from, to)) {
            return NONE;
        }
        return addEntry(AWAY, person, from, to, 0, 0);
    }

    public int stand(int giver, int taker, int from, int to, int cap) {
        if (!isPerson(giver) || !isPerson(taker) || giver == taker || !areDays(from, to) || !isLimit(cap)) {
            return NONE;
        }
        return addEntry(STAND, giver, taker, from, to, cap);
    }

    public int foe(int person, int vendor) {
        if (!isPerson(person) || vendor < 0 || vendor >= VENDORS) {
            return NONE;
        }
        if (isIn(now.foeBits(vendor), person)) {
            return LACKING;
        }
        return addEntry(FOE, person, vendor, 0, 0, 0);
    }

    public int drop(int kind, int k) {
        if (!isEntryKind(kind) || !now.has(kind, k)) {
            return NONE;
        }
        past.remember(now);
        now.removeRow(kind, k);
        return now.sizes[kind];
    }

    public int limit(int post, int kind, int limit) {
        if (!now.has(POST, post) || !isKind(kind) || !isLimit(limit)) {
            return NONE;
        }
        int before = now.cell(POST, post, FIRST_LIMIT + kind);
        if (before == limit) {
            return LACKING;
        }
        past.remember(now);
        now.put(POST, post, FIRST_LIMIT + kind, limit);
        return before;
    }

    public int set(int what, int value) {
        if (what < 0 || what >= SETTINGS || value < 0 || value > HIGHEST_SETTING[what]) {
            return NONE;
        }
        int before = now.settings[what];
        if (before == value) {
            return LACKING;
        }
        past.remember(now);
        now.settings[what] = value;
        return before;
    }

    // ---- undone, kept ----

    public int undo() {
        return past.takeBack(now);
    }

    public int keep(int shelf) {
        if (!isShelf(shelf)) {
            return NONE;
        }
        shelves[shelf].copyFrom(now);
        keptShelves |= 1 << shelf;
        return now.sizes[REQUEST];
    }

    public int back(int shelf) {
        if (!isShelf(shelf)) {
            return NONE;
        }
        if (!isIn(keptShelves, shelf)) {
            return LACKING;
        }
        now.copyFrom(shelves[shelf]);
        past.forget();
        return now.sizes[REQUEST];
    }

    // ---- what there is ----

    public int post(int post, int what) {
        if (!now.has(POST, post)) {
            return NONE;
        }
        if (what >= UPPER && what < FIRST_LIMIT + KINDS) {
            return now.cell(POST, post, what);
        }
        if (what == 4) {
            return now.postsAbove(post);
        }
        return what == 5 ? now.postsBelow(post) : NONE;
    }

    public int entry(int kind, int k, int what) {
        if (!isEntryKind(kind) || !now.has(kind, k) || what < 0 || what >= WIDTH[kind]) {
            return NONE;
        }
        return now.cell(kind, k, what);
    }

    public int asked(int request, int what) {
        if (!now.has(REQUEST, request)) {
            return NONE;
        }
        if (what >= ASKER && what <= RECALLED) {
            return now.cell(REQUEST, request, what);
        }
        if (what == 7) {
            return wholeOn(request, now.cell(REQUEST, request, DAY));
        }
        return what == 8 ? Long.bitCount(joined(request)) : NONE;
    }

    public long joined(int request) {
        if (!now.has(REQUEST, request)) {
            return NONE;
        }
        return now.joinedBits(request, now.cell(REQUEST, request, DAY));
    }

    // ---- routes ----

    public int step(int request, int k, int what) {
        if (!now.has(REQUEST, request)) {
            return NONE;
        }
        route.follow(matterOf(request));
        if (k == NONE) {
            return what == 0 ? route.length : NONE;
        }
        if (!route.has(k) || what < 0 || what >= STEP_WIDTH) {
            return NONE;
        }
        return route.cell(k, what);
    }

    public int chain(int request, int k, int i) {
        if (!now.has(REQUEST, request) || i < 0) {
            return NONE;
        }
        route.follow(matterOf(request));
        if (!route.has(k)) {
            return NONE;
        }
        return i <= route.cell(k, STEP_DEPTH) ? route.inLine(k, i) : LACKING;
    }

    public int ends(int request, int what) {
        if (!now.has(REQUEST, request) || what < 0 || what > 3) {
            return NONE;
        }
        route.follow(matterOf(request));
        if (what == 3) {
            return route.lastCell(STEP_POST);
        }
        if (!now.isRecalled(request)) {
            return route.outcome(what);
        }
        if (what == 0) {
            return ENDS_RECALLED;
        }
        return what == 1 ? now.cell(REQUEST, request, RECALLED) : LACKING;
    }

    public int decides(int post, int day, int person, int which) {
        if (!now.has(POST, post) || !isDay(day) || !isWhich(which) || (person != NONE && !isPerson(person))) {
            return NONE;
        }
        matter.begin(person, which % VENDORS, which / VENDORS);
        return desk.ask(matter, post, day) ? desk.decider() : -2 - desk.reason;
    }

    public int power(int person, int day, int kind) {
        if (!isPerson(person) || !isDay(day) || !isKind(kind)) {
            return NONE;
        }
        matter.begin(NONE, NONE, kind);
        int greatest = LACKING;
        for (int post = 0; post < now.sizes[POST]; post++) {
            if (desk.ask(matter, post, day) && desk.decider() == person) {
                greatest = Math.max(greatest, desk.limit);
            }
        }
        return greatest;
    }

    public int ring(int day) {
        if (!isDay(day)) {
            return NONE;
        }
        web.spin(now, day);
        return web.ringBits();
    }

    public int split(int request) {
        if (!now.has(REQUEST, request)) {
            return NONE;
        }
        int whole = wholeOn(request, now.cell(REQUEST, request, DAY));
        route.climb(matterOf(request));
        int alone = route.firstCovering(now.cell(REQUEST, request, AMOUNT));
        return alone != NONE && route.firstCovering(whole) != alone ? 1 : 0;
    }

    // ---- what if ----

    public int without(int request, int person, int what) {
        if (!now.has(REQUEST, request) || !isPerson(person) || what < 0 || what > 2) {
            return NONE;
        }
        matterOf(request).absent = person;
        route.follow(matter);
        return route.outcome(what);
    }

    public int cure(int request, int what) {
        if (!now.has(REQUEST, request) || what < 0 || what > 1) {
            return NONE;
        }
        matterOf(request);
        int soonestDay = DAYS;
        int best = LACKING;
        for (int k = 0; k < now.sizes[AWAY]; k++) {
            matter.spared = k;
            route.follow(matter);
            if (route.isApproved() && route.lastCell(STEP_DAY) < soonestDay) {
                soonestDay = route.lastCell(STEP_DAY);
                best = k;
            }
        }
        return what == 0 || best == LACKING ? best : soonestDay;
    }

    public int most(int request, int up) {
        if (!now.has(REQUEST, request) || up < 0 || up > now.postsAbove(now.cell(REQUEST, request, ASKED_POST))) {
            return NONE;
        }
        int others = now.amountOf(joined(request));
        route.climb(matterOf(request));
        int amount = Math.min(LARGEST, route.greatestLimit(up) - others);
        return amount < 1 ? LACKING : amount;
    }

    public int soonest(int request, int from, int to, int what) {
        if (!now.has(REQUEST, request) || !areDays(from, to) || to - from > LONGEST_SEARCH || what < 0 || what > 1) {
            return NONE;
        }
        matterOf(request);
        int soonestDay = DAYS;
        int best = LACKING;
        for (int day = from; day <= to; day++) {
            matter.day = day;
            matter.whole = wholeOn(request, day);
            route.follow(matter);
            if (route.isApproved() && route.lastCell(STEP_DAY) < soonestDay) {
                soonestDay = route.lastCell(STEP_DAY);
                best = day;
            }
        }
        return what == 0 || best == LACKING ? best : soonestDay;
    }

    public int instead(int request, int post, int what) {
        if (!now.has(REQUEST, request) || !now.has(POST, post) || what < 0 || what > 2) {
            return NONE;
        }
        matterOf(request).post = post;
        route.follow(matter);
        return route.outcome(what);
    }

    public int pillar(int what) {
        if (what < 0 || what > 1) {
            return NONE;
        }
        clearTally();
        for (int request = 0; request < now.sizes[REQUEST]; request++) {
            if (!now.isRecalled(request)) {
                tallyPillars(request);
            }
        }
        return ofTally(what);
    }

    public int dodge(int person, int post, int which, int amount, int day) {
        if (!isPerson(person) || !now.has(POST, post) || !isWhich(which) || !isAmount(amount) || !isDay(day)) {
            return NONE;
        }
        matter.begin(person, which % VENDORS, which / VENDORS);
        int pause = now.settings[WINDOW] + 1;
        for (int parts = 1; parts <= MOST_PARTS && parts <= amount; parts++) {
            int partDay = day + (parts - 1) * pause;
            if (partDay >= DAYS) {
                return LACKING;
            }
            partLimits[parts - 1] = route.limitOfFirstStep(matter, post, partDay);
            if (coverParts(parts, amount)) {
                return parts;
            }
        }
        return LACKING;
    }

    // ---- all requests ----

    public int load(int person, int what) {
        if (!isPerson(person) || what < 0 || what > 2) {
            return NONE;
        }
        tallySteps(what);
        return tally[person];
    }

    public int busiest(int what) {
        if (what < 0 || what > 1) {
            return NONE;
        }
        tallySteps(0);
        return ofTally(what);
    }

    public int approved(int what) {
        if (what < 0 || what > 3) {
            return NONE;
        }
        int number = 0;
        int amounts = 0;
        int longest = LACKING;
        int slowest = LACKING;
        for (int request = 0; request < now.sizes[REQUEST]; request++) {
            if (isApprovedNow(request)) {
                number++;
                amounts += now.cell(REQUEST, request, AMOUNT);
                int length = route.lastCell(STEP_DAY) - now.cell(REQUEST, request, DAY);
                if (length > longest) {
                    longest = length;
                    slowest = request;
                }
            }
        }
        switch (what) {
            case 0: return number;
            case 1: return amounts;
            case 2: return longest;
            default: return slowest;
        }
    }

    public int could(int request) {
        if (!now.has(REQUEST, request)) {
            return NONE;
        }
        matterOf(request);
        int bits = 0;
        int post = matter.post;
        for (int level = 0; level < MOST_POSTS && now.has(POST, post); level++) {
            if (desk.ask(matter, post, matter.day) && desk.limit >= matter.whole) {
                bits |= bitOf(desk.decider());
            }
            post = now.cell(POST, post, UPPER);
        }
        return bits;
    }

    // ---- a post's days ----

    public int manned(int post, int from, int to, int what) {
        if (!now.has(POST, post) || !areDays(from, to) || what < 0 || what > 1) {
            return NONE;
        }
        matter.begin(NONE, NONE, 0);
        int days = 0;
        int next = from;
        for (int day = from; day <= to; day = Math.max(day + 1, next)) {
            next = nextDay(day, to);
            boolean is = what == 0 ? now.holderAt(post, day) != NONE : desk.ask(matter, post, day);
            if (is) {
                days += next - day;
            }
        }
        return days;
    }

    public int gap(int post, int from, int to, int what) {
        if (!now.has(POST, post) || !areDays(from, to) || what < 0 || what > 2) {
            return NONE;
        }
        matter.begin(NONE, NONE, 0);
        int days = 0;
        int first = LACKING;
        int longest = 0;
        int length = 0;
        int next = from;
        for (int day = from; day <= to; day = Math.max(day + 1, next)) {
            next = nextDay(day, to);
            if (desk.ask(matter, post, day)) {
                length = 0;
                continue;
            }
            first = days == 0 ? day : first;
            days += next - day;
            length += next - day;
            longest = Math.max(longest, length);
        }
        if (what == 0) {
            return days;
        }
        return what == 1 ? first : longest;
    }

    public int letter(int k) {
        if (k < NONE) {
            return NONE;
        }
        return text.byteOf(now, k);
    }

    public int tangle(int day) {
        if (!isDay(day)) {
            return NONE;
        }
        web.spin(now, day);
        return web.longestLine();
    }

    public int count(int what) {
        switch (what) {
            case 0: return now.sizes[POST];
            case 1: return now.sizes[HOLD];
            case 2: return now.sizes[AWAY];
            case 3: return now.sizes[STAND];
            case 4: return now.sizes[FOE];
            case 5: return now.settings[WINDOW];
            case 6: return now.settings[PACE];
            case 7: return now.settings[WAIT];
            case 8: return now.sizes[REQUEST];
            case 9: return countRecalled();
            case 10: return countStuck();
            case 11: return past.size;
            case 12: return tape.size;
            case 13: return keptShelves;
            default: return NONE;
        }
    }

    // ---- helpers of the calls above ----

    private static boolean isPerson(int person) {
        return person >= 0 && person < PERSONS;
    }

    private static boolean isDay(int day) {
        return day >= 0 && day < DAYS;
    }

    private static boolean areDays(int from, int to) {
        return isDay(from) && isDay(to) && from <= to;
    }

    private static boolean isKind(int kind) {
        return kind >= 0 && kind < KINDS;
    }

    private static boolean isEntryKind(int kind) {
        return kind >= HOLD && kind <= FOE;
    }

    private static boolean isWhich(int which) {
        return which >= 0 && which < VENDORS * KINDS;
    }

    private static boolean isAmount(int amount) {
        return amount >= 1 && amount <= LARGEST;
    }

    private static boolean isLimit(int limit) {
        return limit >= 0 && limit <= LARGEST;
    }

    private static boolean isShelf(int shelf) {
        return shelf >= 0 && shelf < SHELVES;
    }

    private static boolean isIn(int bits, int member) {
        return (bits >> member & 1) != 0;
    }

    private static int bitOf(int person) {
        return isPerson(person) ? 1 << person : 0;
    }

    private int addEntry(int kind, int a, int b, int c, int d, int e) {
        if (now.isFull(kind)) {
            return LACKING;
        }
        past.remember(now);
        return now.addRow(kind, a, b, c, d, e);
    }

    private int refusalOfRecall(int request, int day) {
        if (!now.has(REQUEST, request) || !isDay(day) || day < now.cell(REQUEST, request, DAY)) {
            return NONE;
        }
        if (now.isRecalled(request)) {
            return LACKING;
        }
        route.follow(matterOf(request));
        return route.isApproved() && route.lastCell(STEP_DAY) <= day ? TOO_LATE : FREE;
    }

    private int wholeOn(int request, int day) {
        return now.cell(REQUEST, request, AMOUNT) + now.amountOf(now.joinedBits(request, day));
    }

    private Matter matterOf(int request) {
        matter.begin(
                now.cell(REQUEST, request, ASKER),
                now.cell(REQUEST, request, ASKED_VENDOR),
                now.cell(REQUEST, request, ASKED_KIND));
        matter.post = now.cell(REQUEST, request, ASKED_POST);
        matter.day = now.cell(REQUEST, request, DAY);
        matter.whole = wholeOn(request, matter.day);
        return matter;
    }

    private boolean isApprovedNow(int request) {
        if (now.isRecalled(request)) {
            return false;
        }
        route.follow(matterOf(request));
        return route.isApproved();
    }

    private int countRecalled() {
        int number = 0;
        for (int request = 0; request < now.sizes[REQUEST]; request++) {
            if (now.isRecalled(request)) {
                number++;
            }
        }
        return number;
    }

    private int countStuck() {
        int number = 0;
        for (int request = 0; request < now.sizes[REQUEST]; request++) {
            if (!now.isRecalled(request)) {
                route.follow(matterOf(request));
                number += route.isApproved() ? 0 : 1;
            }
        }
        return number;
    }

    // Between two changes of holds, aways and stands all days are alike, so one of them is asked for all.
    private int nextDay(int day, int to) {
        return Math.min(to + 1, now.nextChange(day));
    }

    private void clearTally() {
        for (int person = 0; person < PERSONS; person++) {
            tally[person] = 0;
        }
    }

    private void tallySteps(int what) {
        clearTally();
        for (int request = 0; request < now.sizes[REQUEST]; request++) {
            if (now.isRecalled(request)) {
                continue;
            }
            route.follow(matterOf(request));
            for (int k = 0; k < route.length; k++) {
                int person = route.cell(k, STEP_PERSON);
                if (isPerson(person) && route.countsAs(k, what)) {
                    tally[person]++;
                }
            }
        }
    }

    // Whoever does no step of a route leaves it as it is by being away, so only those who do are tried.
    private void tallyPillars(int request) {
        route.follow(matterOf(request));
        if (!route.isApproved()) {
            return;
        }
        int doers = route.doers();
        for (int person = 0; person < PERSONS; person++) {
            if (isIn(doers, person)) {
                matter.absent = person;
                route.follow(matter);
                tally[person] += route.isApproved() ? 0 : 1;
            }
        }
    }

    private int ofTally(int what) {
        int best = 0;
        for (int person = 1; person < PERSONS; person++) {
            if (tally[person] > tally[best]) {
                best = person;
            }
        }
        if (tally[best] == 0) {
            return LACKING;
        }
        return what == 0 ? best : tally[best];
    }

    private boolean coverParts(int parts, int amount) {
        if (parts < 1 || parts > MOST_PARTS) {
            return false;
        }
        int least = amount / parts;
        int larger = amount % parts;
        for (int i = 0; i < parts; i++) {
            if (partLimits[i] < (i < larger ? least + 1 : least)) {
                return false;
            }
        }
        return true;
    }

    private static String wordOf(int part) {
        switch (part) {
            case HOLD: return "hold";
            case AWAY: return "away";
            case STAND: return "stand";
            case FOE: return "foe";
            case POST: return "post";
            case SETTING_PART + WINDOW: return "window";
            case SETTING_PART + PACE: return "pace";
            case SETTING_PART + WAIT: return "wait";
            default: return "";
        }
    }

    /** All that acts change and shelves keep: rows of numbers by kind, and the settings. */
    private static final class State {
        final int[] cells;
        final int[] sizes;
        final int[] settings;

        State() {
            cells = new int[CELLS];
            sizes = new int[ROW_KINDS];
            settings = new int[SETTINGS];
            clear();
        }

        void clear() {
            for (int kind = 0; kind < ROW_KINDS; kind++) {
                sizes[kind] = 0;
            }
            for (int what = 0; what < SETTINGS; what++) {
                settings[what] = FIRST_SETTING[what];
            }
        }

        void copyFrom(State other) {
            for (int kind = 0; kind < ROW_KINDS; kind++) {
                int used = other.sizes[kind] * WIDTH[kind];
                System.arraycopy(other.cells, ROWS_START[kind], cells, ROWS_START[kind], used);
                sizes[kind] = other.sizes[kind];
            }
            System.arraycopy(other.settings, 0, settings, 0, SETTINGS);
        }

        boolean has(int kind, int k) {
            return k >= 0 && k < sizes[kind];
        }

        boolean isFull(int kind) {
            return sizes[kind] >= MOST_ROWS[kind];
        }

        int cell(int kind, int k, int column) {
            return cells[ROWS_START[kind] + k * WIDTH[kind] + column];
        }

        void put(int kind, int k, int column, int value) {
            cells[ROWS_START[kind] + k * WIDTH[kind] + column] = value;
        }

        int addRow(int kind, int a, int b, int c, int d, int e) {
            if (isFull(kind)) {
                return NONE;
            }
            int k = sizes[kind];
            int width = WIDTH[kind];
            sizes[kind] = k + 1;
            put(kind, k, 0, a);
            put(kind, k, 1, b);
            if (width > 2) {
                put(kind, k, 2, c);
            }
            if (width > 3) {
                put(kind, k, 3, d);
            }
            if (width > 4) {
                put(kind, k, 4, e);
            }
            return k;
        }

        int addRequest(int person, int post, int vendor, int kind, int amount, int day) {
            int request = addRow(REQUEST, person, post, vendor, kind, amount);
            if (request != NONE) {
                put(REQUEST, request, DAY, day);
                put(REQUEST, request, RECALLED, LACKING);
            }
            return request;
        }

        void removeRow(int kind, int k) {
            if (!has(kind, k)) {
                return;
            }
            int width = WIDTH[kind];
            int place = ROWS_START[kind] + k * width;
            System.arraycopy(cells, place + width, cells, place, (sizes[kind] - k - 1) * width);
            sizes[kind]--;
        }

        boolean isRecalled(int request) {
            return cell(REQUEST, request, RECALLED) != LACKING;
        }

        int postsAbove(int post) {
            int above = 0;
            int upper = cell(POST, post, UPPER);
            while (has(POST, upper) && above < MOST_POSTS) {
                above++;
                upper = cell(POST, upper, UPPER);
            }
            return above;
        }

        int postsBelow(int post) {
            int below = 0;
            for (int k = 0; k < sizes[POST]; k++) {
                if (cell(POST, k, UPPER) == post) {
                    below++;
                }
            }
            return below;
        }

        boolean covers(int kind, int k, int day) {
            int place = ROWS_START[kind] + k * WIDTH[kind] + FROM_COLUMN[kind];
            return cells[place] <= day && day <= cells[place + 1];
        }

        int holderAt(int post, int day) {
            for (int k = 0; k < sizes[HOLD]; k++) {
                if (cell(HOLD, k, HOLD_POST) == post && covers(HOLD, k, day)) {
                    return cell(HOLD, k, HOLD_PERSON);
                }
            }
            return NONE;
        }

        int awayBits(int day, int spared) {
            int bits = 0;
            for (int k = 0; k < sizes[AWAY]; k++) {
                if (k != spared && covers(AWAY, k, day)) {
                    bits |= 1 << cell(AWAY, k, AWAY_PERSON);
                }
            }
            return bits;
        }

        int foeBits(int vendor) {
            int bits = 0;
            for (int k = 0; k < sizes[FOE]; k++) {
                if (cell(FOE, k, FOE_VENDOR) == vendor) {
                    bits |= 1 << cell(FOE, k, FOE_PERSON);
                }
            }
            return bits;
        }

        /** The first day behind this one on which a hold, away or stand begins or has just ended. */
        int nextChange(int day) {
            int next = DAYS;
            for (int kind = HOLD; kind <= STAND; kind++) {
                for (int k = 0; k < sizes[kind]; k++) {
                    int from = cell(kind, k, FROM_COLUMN[kind]);
                    int behind = cell(kind, k, FROM_COLUMN[kind] + 1) + 1;
                    if (from > day) {
                        next = Math.min(next, from);
                    } else if (behind > day) {
                        next = Math.min(next, behind);
                    }
                }
            }
            return next;
        }

        /**
         * Joined ones lie no more than a window apart, so one that is a window at most from the days
         * they span is that near to one of them: the span alone tells who comes next.
         */
        long joinedBits(int request, int day) {
            long bits = 0;
            int first = day;
            int last = day;
            boolean grew = true;
            for (int turn = 0; turn < request && grew; turn++) {
                grew = false;
                for (int k = 0; k < request; k++) {
                    int its = cell(REQUEST, k, DAY);
                    boolean near = its >= first - settings[WINDOW] && its <= last + settings[WINDOW];
                    if (near && (bits >> k & 1) == 0 && canJoin(k, request, day)) {
                        bits |= 1L << k;
                        first = Math.min(first, its);
                        last = Math.max(last, its);
                        grew = true;
                    }
                }
            }
            return bits;
        }

        private boolean canJoin(int k, int request, int day) {
            int recalled = cell(REQUEST, k, RECALLED);
            return cell(REQUEST, k, ASKER) == cell(REQUEST, request, ASKER)
                    && cell(REQUEST, k, ASKED_VENDOR) == cell(REQUEST, request, ASKED_VENDOR)
                    && cell(REQUEST, k, ASKED_KIND) == cell(REQUEST, request, ASKED_KIND)
                    && (recalled == LACKING || recalled > day);
        }

        int amountOf(long requests) {
            int amount = 0;
            for (int k = 0; k < sizes[REQUEST]; k++) {
                if ((requests >> k & 1) != 0) {
                    amount += cell(REQUEST, k, AMOUNT);
                }
            }
            return amount;
        }
    }

    /** The states ahead of the last acts, in a ring: the oldest gives its place to the newest. */
    private static final class Past {
        private final State[] states;
        private int first;
        int size;

        Past() {
            states = new State[MOST_UNDONE];
            for (int k = 0; k < MOST_UNDONE; k++) {
                states[k] = new State();
            }
            first = 0;
            size = 0;
        }

        void forget() {
            size = 0;
        }

        void remember(State state) {
            if (size == MOST_UNDONE) {
                first = (first + 1) % MOST_UNDONE;
                size--;
            }
            states[(first + size) % MOST_UNDONE].copyFrom(state);
            size++;
        }

        int takeBack(State state) {
            if (size == 0) {
                return NONE;
            }
            size--;
            state.copyFrom(states[(first + size) % MOST_UNDONE]);
            return size;
        }
    }

    /** The bytes that a text is fed as. */
    private static final class Tape {
        private final byte[] bytes;
        int size;

        Tape() {
            bytes = new byte[MOST_BYTES];
            size = 0;
        }

        void add(int four) {
            for (int shift = 24; shift >= 0 && size < MOST_BYTES; shift -= 8) {
                bytes[size] = (byte) (four >> shift);
                size++;
            }
        }

        int byteAt(int place) {
            return place >= 0 && place < size ? bytes[place] & 255 : NONE;
        }
    }

    /** Reads the tape from left to right up to the first place that is wrong. */
    private static final class Reader {
        private static final int OUT_OF_PLACE = 1;
        private static final int NOT_AS_TOLD = 2;
        private static final int TOO_MANY = 3;
        private static final int TOO_LARGE = 100000;
        private static final int MOST_NUMBERS = 5;

        private final Tape tape;
        private final State draft;
        private final int[] numbers;
        private int at;
        private int fault;
        private int settingsTold;

        Reader(Tape tape, State draft) {
            this.tape = tape;
            this.draft = draft;
            numbers = new int[MOST_NUMBERS];
            at = 0;
            fault = 0;
            settingsTold = 0;
        }

        /** 0 if the tape tells an order, which the draft is then; else the fault, which is never 0. */
        int read() {
            draft.clear();
            at = 0;
            fault = 0;
            settingsTold = 0;
            skipBlanks();
            boolean more = at < tape.size;
            for (int parts = 0; more && parts < MOST_BYTES; parts++) {
                readPart();
                more = fault == 0 && readSemicolon();
            }
            return fault;
        }

        private void fail(int place, int how) {
            fault = 8 * place + how;
        }

        private void skipBlanks() {
            while (at < tape.size && tape.byteAt(at) == ' ') {
                at++;
            }
        }

        private boolean readSemicolon() {
            if (at >= tape.size) {
                return false;
            }
            if (tape.byteAt(at) != ';') {
                fail(at, OUT_OF_PLACE);
                return false;
            }
            at++;
            skipBlanks();
            return true;
        }

        private void readPart() {
            int length = wordLength();
            int part = partNamed(length);
            if (part == NONE) {
                fail(at, OUT_OF_PLACE);
                return;
            }
            if (isTold(part)) {
                fail(at, TOO_MANY);
                return;
            }
            at += length;
            String signs = signsOf(part);
            for (int i = 0; i < signs.length() && i < MOST_NUMBERS && fault == 0; i++) {
                skipBlanks();
                readNumber(signs.charAt(i), i == 0 ? NONE : numbers[i - 1], i);
            }
            if (fault == 0) {
                skipBlanks();
                take(part);
            }
        }

        private int wordLength() {
            int behind = at;
            while (behind < tape.size && tape.byteAt(behind) >= 'a' && tape.byteAt(behind) <= 'z') {
                behind++;
            }
            return behind - at;
        }

        private int partNamed(int length) {
            for (int part = 0; part < PARTS; part++) {
                if (length > 0 && isWord(wordOf(part), length)) {
                    return part;
                }
            }
            return NONE;
        }

        private boolean isWord(String word, int length) {
            if (word.length() != length) {
                return false;
            }
            for (int i = 0; i < length; i++) {
                if (tape.byteAt(at + i) != word.charAt(i)) {
                    return false;
                }
            }
            return true;
        }

        private boolean isTold(int part) {
            return part < SETTING_PART ? draft.isFull(part) : isIn(settingsTold, part - SETTING_PART);
        }

        // A sign for each number of a part; fits() says what each of them asks for.
        private static String signsOf(int part) {
            switch (part) {
                case HOLD: return "pnfd";
                case AWAY: return "nfd";
                case STAND: return "ntfdl";
                case FOE: return "nv";
                case POST: return "ulll";
                case SETTING_PART + WINDOW: return "w";
                case SETTING_PART + PACE: return "c";
                case SETTING_PART + WAIT: return "i";
                default: return "";
            }
        }

        private boolean fits(char sign, int value, int before) {
            switch (sign) {
                case 'u':
                case 'p': return value < draft.sizes[POST];
                case 'n': return value < PERSONS;
                case 't': return value < PERSONS && value != before;
                case 'f': return value < DAYS;
                case 'd': return value < DAYS && value >= before;
                case 'l': return value <= LARGEST;
                case 'v': return value < VENDORS;
                case 'w': return value <= HIGHEST_SETTING[WINDOW];
                case 'c': return value <= HIGHEST_SETTING[PACE];
                case 'i': return value <= HIGHEST_SETTING[WAIT];
                default: return false;
            }
        }

        private void readNumber(char sign, int before, int i) {
            int start = at;
            if (sign == 'u' && isWord("top", wordLength())) {
                at += 3;
                numbers[i] = LACKING;
                return;
            }
            int value = 0;
            while (at < tape.size && tape.byteAt(at) >= '0' && tape.byteAt(at) <= '9') {
                value = Math.min(TOO_LARGE, 10 * value + tape.byteAt(at) - '0');
                at++;
            }
            if (at == start) {
                fail(start, OUT_OF_PLACE);
            } else if (!fits(sign, value, before)) {
                fail(start, NOT_AS_TOLD);
            }
            numbers[i] = value;
        }

        private void take(int part) {
            if (part < SETTING_PART) {
                draft.addRow(part, numbers[0], numbers[1], numbers[2], numbers[3], numbers[4]);
            } else {
                draft.settings[part - SETTING_PART] = numbers[0];
                settingsTold |= 1 << (part - SETTING_PART);
            }
        }
    }

    /** Tells an order as a text. It holds no bytes: it counts them, and notes the one that is wanted. */
    private static final class Letter {
        private int wanted;
        private int size;
        private int found;

        Letter() {
            wanted = NONE;
            size = 0;
            found = LACKING;
        }

        int byteOf(State order, int k) {
            wanted = k;
            size = 0;
            found = LACKING;
            tellRows(order, POST);
            for (int kind = HOLD; kind <= FOE; kind++) {
                tellRows(order, kind);
            }
            for (int what = 0; what < SETTINGS; what++) {
                if (order.settings[what] != FIRST_SETTING[what]) {
                    beginPart(SETTING_PART + what);
                    writeNumber(order.settings[what]);
                }
            }
            return k == NONE ? size : found;
        }

        private void tellRows(State order, int kind) {
            for (int k = 0; k < order.sizes[kind]; k++) {
                beginPart(kind);
                for (int column = 0; column < WIDTH[kind]; column++) {
                    writeNumber(order.cell(kind, k, column));
                }
            }
        }

        private void beginPart(int part) {
            if (size > 0) {
                write(';');
            }
            writeWord(wordOf(part));
        }

        private void writeNumber(int value) {
            write(' ');
            if (value < 0) {
                writeWord("top");
                return;
            }
            for (int unit = 1000; unit > 0; unit /= 10) {
                if (value >= unit || unit == 1) {
                    write((char) ('0' + value / unit % 10));
                }
            }
        }

        private void writeWord(String word) {
            for (int i = 0; i < word.length(); i++) {
                write(word.charAt(i));
            }
        }

        private void write(char sign) {
            if (size == wanted) {
                found = sign;
            }
            size++;
        }
    }

    /** What is to be decided, and what is supposed about absences meanwhile. */
    private static final class Matter {
        int person;
        int vendor;
        int kind;
        int post;
        int day;
        int whole;
        int absent;
        int spared;

        Matter() {
            begin(NONE, NONE, 0);
        }

        void begin(int person, int vendor, int kind) {
            this.person = person;
            this.vendor = vendor;
            this.kind = kind;
            post = 0;
            day = 0;
            whole = 0;
            absent = NONE;
            spared = NONE;
        }
    }

    /** Finds who decides at a post on a day. */
    private static final class Desk {
        private final State state;
        private final int[] line;
        private int asker;
        private int day;
        private int barred;
        private int asked;
        int depth;
        int limit;
        int reason;

        Desk(State state) {
            this.state = state;
            line = new int[PERSONS];
            asker = NONE;
            day = 0;
            barred = 0;
            asked = 0;
            depth = 0;
            limit = 0;
            reason = NO_HOLDER;
        }

        /** Whether someone decides: then the line up to its depth, and the limit, tell who and with what. */
        boolean ask(Matter matter, int post, int onDay) {
            int holder = state.holderAt(post, onDay);
            if (holder == NONE) {
                reason = NO_HOLDER;
                return false;
            }
            int away = state.awayBits(onDay, matter.spared) | bitOf(matter.absent);
            if (holder == matter.person) {
                reason = OWN_REQUEST;
                return false;
            }
            reason = isIn(away, holder) ? HOLDER_AWAY : HOLDER_FOE;
            asker = matter.person;
            day = onDay;
            barred = away | state.foeBits(matter.vendor);
            asked = 0;
            return askOne(holder, state.cell(POST, post, FIRST_LIMIT + matter.kind), 0);
        }

        private boolean askOne(int person, int withLimit, int level) {
            if (level >= PERSONS) {
                return false;
            }
            asked |= 1 << person;
            line[level] = person;
            if (person == asker) {
                return false;
            }
            if (!isIn(barred, person)) {
                depth = level;
                limit = withLimit;
                return true;
            }
            for (int k = 0; k < state.sizes[STAND]; k++) {
                if (state.cell(STAND, k, GIVER) != person || !state.covers(STAND, k, day)) {
                    continue;
                }
                int taker = state.cell(STAND, k, TAKER);
                int least = Math.min(withLimit, state.cell(STAND, k, CAP));
                if (!isIn(asked, taker) && askOne(taker, least, level + 1)) {
                    return true;
                }
            }
            return false;
        }

        int inLine(int i) {
            return i >= 0 && i < PERSONS ? line[i] : NONE;
        }

        int decider() {
            return line[depth];
        }
    }

    /** The steps of one way up. */
    private static final class Route {
        private final State state;
        private final Desk desk;
        private final int[] steps;
        private final int[] lines;
        int length;

        Route(State state, Desk desk) {
            this.state = state;
            this.desk = desk;
            steps = new int[MOST_POSTS * STEP_WIDTH];
            lines = new int[MOST_POSTS * PERSONS];
            length = 0;
        }

        void follow(Matter matter) {
            length = 0;
            int post = matter.post;
            int day = matter.day;
            for (int level = 0; level < MOST_POSTS && state.has(POST, post) && day < DAYS; level++) {
                takeStep(matter, post, day);
                if (isApproved()) {
                    return;
                }
                post = state.cell(POST, post, UPPER);
                day = lastCell(STEP_DAY) + state.settings[PACE];
            }
        }

        /** As far up as it goes, as if no limit covered it. */
        void climb(Matter matter) {
            matter.whole = LARGEST + 1;
            follow(matter);
        }

        int limitOfFirstStep(Matter matter, int post, int day) {
            length = 0;
            takeStep(matter, post, day);
            return cell(0, STEP_LIMIT);
        }

        private void takeStep(Matter matter, int post, int day) {
            int last = Math.min(day + state.settings[WAIT], DAYS - 1);
            boolean decided = desk.ask(matter, post, day);
            int reason = desk.reason;
            int onDay = day;
            while (!decided && onDay < last) {
                onDay = Math.max(onDay + 1, Math.min(last, state.nextChange(onDay)));
                decided = desk.ask(matter, post, onDay);
            }
            int place = length * STEP_WIDTH;
            steps[place + STEP_POST] = post;
            steps[place + STEP_DAY] = onDay;
            steps[place + STEP_PERSON] = decided ? desk.decider() : LACKING;
            steps[place + STEP_LIMIT] = decided ? desk.limit : LACKING;
            steps[place + STEP_DEPTH] = decided ? desk.depth : LACKING;
            if (decided) {
                steps[place + STEP_RESULT] = desk.limit >= matter.whole ? APPROVED : ENDORSED;
                for (int i = 0; i <= desk.depth; i++) {
                    lines[length * PERSONS + i] = desk.inLine(i);
                }
            } else {
                steps[place + STEP_RESULT] = reason;
            }
            length++;
        }

        boolean has(int k) {
            return k >= 0 && k < length;
        }

        int cell(int k, int what) {
            return steps[k * STEP_WIDTH + what];
        }

        int lastCell(int what) {
            return length > 0 ? cell(length - 1, what) : NONE;
        }

        int inLine(int k, int i) {
            return lines[k * PERSONS + i];
        }

        boolean isApproved() {
            return lastCell(STEP_RESULT) == APPROVED;
        }

        /** How it ends: what 0, the day: 1, the person: 2. */
        int outcome(int what) {
            if (what == 0) {
                return isApproved() ? ENDS_APPROVED : ENDS_STUCK;
            }
            if (what == 1) {
                return lastCell(STEP_DAY);
            }
            return isApproved() ? lastCell(STEP_PERSON) : LACKING;
        }

        int firstCovering(int amount) {
            for (int k = 0; k < length; k++) {
                if (cell(k, STEP_LIMIT) >= amount) {
                    return k;
                }
            }
            return NONE;
        }

        int greatestLimit(int up) {
            int greatest = 0;
            for (int k = 0; k < length && k <= up; k++) {
                greatest = Math.max(greatest, cell(k, STEP_LIMIT));
            }
            return greatest;
        }

        int doers() {
            int bits = 0;
            for (int k = 0; k < length; k++) {
                bits |= bitOf(cell(k, STEP_PERSON));
            }
            return bits;
        }

        boolean countsAs(int k, int what) {
            if (what == 0) {
                return true;
            }
            return what == 1 ? cell(k, STEP_RESULT) == APPROVED : cell(k, STEP_DEPTH) > 0;
        }
    }

    /** Who gives to whom on a day. */
    private static final class Web {
        private final int[] takers;

        Web() {
            takers = new int[PERSONS];
        }

        void spin(State state, int day) {
            for (int person = 0; person < PERSONS; person++) {
                takers[person] = 0;
            }
            for (int k = 0; k < state.sizes[STAND]; k++) {
                if (state.covers(STAND, k, day)) {
                    takers[state.cell(STAND, k, GIVER)] |= 1 << state.cell(STAND, k, TAKER);
                }
            }
        }

        int ringBits() {
            int bits = 0;
            for (int person = 0; person < PERSONS; person++) {
                if (isIn(reachedFrom(person), person)) {
                    bits |= 1 << person;
                }
            }
            return bits;
        }

        private int reachedFrom(int person) {
            int reached = takers[person];
            for (int turn = 0; turn < PERSONS; turn++) {
                for (int other = 0; other < PERSONS; other++) {
                    if (isIn(reached, other)) {
                        reached |= takers[other];
                    }
                }
            }
            return reached;
        }

        int longestLine() {
            int longest = 0;
            for (int person = 0; person < PERSONS; person++) {
                if (takers[person] != 0) {
                    longest = Math.max(longest, lineFrom(person, 1 << person, 1));
                }
            }
            return longest;
        }

        private int lineFrom(int person, int passed, int length) {
            int longest = length;
            int open = takers[person] & ~passed;
            for (int next = 0; next < PERSONS && length < PERSONS; next++) {
                if (isIn(open, next)) {
                    longest = Math.max(longest, lineFrom(next, passed | 1 << next, length + 1));
                }
            }
            return longest;
        }
    }
}
