/** What the terms say of an order, of requests and of acts; the texts have their own tests. */
final class EdgesOfTerms {
    private static final int TERMS = Sentences.TERMS;
    private static final String ONE = "post top 100 50 20;hold 0 3 0 999";
    private static final String TWO = "post top 500 0 0;post 0 100 50 20;hold 1 3 0 999;hold 0 7 0 999;away 5 10 20;stand 5 6 0 999 50;foe 8 2";

    private EdgesOfTerms() {}

    static void all(Sentences s) {
        daysPersonsVendorsKinds(s);
        postsAndLimits(s);
        entries(s);
        settings(s);
        requests(s);
        allFull(s);
        joining(s);
        actsAndShelves(s);
        whichAnswerGoesAhead(s);
    }

    // ---- the numbers that many calls take ----

    private static void daysPersonsVendorsKinds(Sentences s) {
        s.says(TERMS, "DAYS 0 to 999", t -> {
            t.tell(TWO).due(0, "request", 1, 1, 0, 101, 0);
            t.range(4, 0, 999, "request", 1, 1, 1, 1, 1).range(1, 0, 999, "recall", 0, 0).range(2, 0, 999, "amend", 0, 1, 0);
            t.range(2, 0, 999, "hold", 1, 1, 0, 999).range(3, 0, 999, "hold", 1, 1, 0, 999).range(1, 0, 999, "away", 1, 0, 999)
                    .range(2, 0, 999, "away", 1, 0, 999);
            t.range(2, 0, 999, "stand", 1, 2, 0, 999, 1).range(3, 0, 999, "stand", 1, 2, 0, 999, 1);
            t = t.another().tell(TWO).due(0, "request", 1, 1, 0, 101, 0);
            t.range(1, 0, 999, "decides", 1, 0, -1, 0).range(1, 0, 999, "power", 3, 0, 0).range(0, 0, 999, "ring", 0).range(0, 0, 999, "tangle", 0);
            t.range(1, 0, 999, "manned", 1, 0, 999, 0).range(2, 0, 999, "manned", 1, 0, 999, 1).range(1, 0, 999, "gap", 1, 0, 999, 0)
                    .range(2, 0, 999, "gap", 1, 0, 999, 1);
            t.range(1, 0, 60, "soonest", 0, 0, 60, 0).range(2, 939, 999, "soonest", 0, 939, 999, 0).range(4, 0, 999, "dodge", 1, 1, 0, 1, 0);
        });
        s.says(TERMS, "PERSONS 0 to 15", t -> {
            t.tell(TWO).due(0, "request", 1, 1, 0, 101, 0);
            t.range(0, 0, 15, "request", 1, 1, 1, 1, 1).range(1, 0, 15, "hold", 1, 1, 0, 0).range(0, 0, 15, "away", 1, 0, 0)
                    .range(0, 0, 15, "foe", 1, 1);
            t.range(0, 0, 15, "stand", 1, 2, 0, 0, 0).range(1, 0, 15, "stand", 1, 2, 0, 0, 0).range(2, -1, 15, "decides", 1, 0, 0, 0)
                    .range(0, 0, 15, "power", 0, 0, 0);
            t.range(1, 0, 15, "without", 0, 0, 0).range(0, 0, 15, "load", 0, 0).range(0, 0, 15, "dodge", 0, 1, 0, 1, 0);
        });
        s.says(TERMS, "VENDORS 0 to 9", t -> {
            t.tell(TWO).range(1, 0, 9, "foe", 1, 1).range(2, 0, 29, "request", 1, 1, 1, 1, 1).range(3, 0, 29, "decides", 1, 0, 0, 0)
                    .range(2, 0, 29, "dodge", 0, 1, 0, 1, 0);
            t.due(0, "request", 0, 0, 9, 1, 0).due(9, "asked", 0, 2).due(1, "request", 0, 0, 10, 1, 0).due(0, "asked", 1, 2);
        });
        s.says(TERMS, "KINDS 0 to 2", t -> {
            t.tell(TWO).range(1, 0, 2, "limit", 0, 0, 7).range(2, 0, 2, "power", 0, 0, 0);
            t.due(0, "request", 0, 0, 29, 1, 0).due(2, "asked", 0, 3).due(100, "power", 3, 0, 0).due(50, "power", 3, 0, 1).due(20, "power", 3, 0, 2);
        });
    }

    // ---- an order ----

    private static void postsAndLimits(Sentences s) {
        s.says(TERMS, "AN ORDER has POSTS 0, 1, .. (12 at most, as they were told)", t -> {
            t.due(-1, "post", 0, 0);
            StringBuilder text = new StringBuilder("post top 0 0 12");
            for (int post = 1; post < 12; post++) {
                text.append(";post " + (post - 1) + " 0 0 " + (12 - post));
            }
            t.tell(text.toString()).due(12, "count", 0).range(0, 0, 11, "post", 0, 3).dueFault(text.length() + 1, 3, text + ";post 0 0 0 0");
            for (int post = 0; post < 12; post++) {
                t.due(12 - post, "post", post, 3).due(post, "post", post, 4);
            }
            t.due(0, "request", 0, 11, 0, 1, 0).due(12, "step", 0, -1, 0).due(0, "step", 0, 11, 0).due(-1, "step", 0, 12, 0);
        });
        s.says(TERMS, "each with an UPPER POST (told ahead of it) or none", t -> {
            t.tell("post top 0 0 0;post top 0 0 0;post 1 0 0 0").due(-2, "post", 0, 0).due(-2, "post", 1, 0).due(1, "post", 2, 0);
            t.dueFault(5, 2, "post 0 0 0 0").dueFault(20, 2, "post top 0 0 0;post 1 0 0 0")
                    .dueFault(20, 2, "post top 0 0 0;post 2 0 0 0;post top 0 0 0");
        });
        s.says(TERMS, "and a LIMIT (0 to 9999) for each KIND", t -> {
            t.tell("post top 0 1 9999;hold 0 3 0 999").range(2, 0, 9999, "limit", 0, 0, 5).range(2, 0, 9999, "limit", 0, 1, 5)
                    .range(2, 0, 9999, "limit", 0, 2, 5);
        });
    }

    private static void entries(Sentences s) {
        s.says(TERMS, "HOLDS (24 at most): a POST, a PERSON, from a DAY to a DAY (both with it; the second not below the first)", t -> {
            t.tell("post top 1 1 1;hold 0 3 5 7;hold 0 4 9 9;hold 0 0 0 0;hold 0 15 999 999").due(0, "decides", 0, 0, -1, 0)
                    .due(-4, "decides", 0, 1, -1, 0);
            t.due(-4, "decides", 0, 4, -1, 0).due(3, "decides", 0, 5, -1, 0).due(3, "decides", 0, 7, -1, 0).due(-4, "decides", 0, 8, -1, 0);
            t.due(4, "decides", 0, 9, -1, 0).due(-4, "decides", 0, 10, -1, 0).due(-4, "decides", 0, 998, -1, 0).due(15, "decides", 0, 999, -1, 0);
            t.refused(-1, "hold", 0, 1, 7, 6).does(3, 7, "hold", 0, 1, 7, 7);
            for (int k = 4; k < 24; k++) {
                t.due(k, "hold", 0, 1, k, k);
            }
            t.refused(-2, "hold", 0, 1, 2, 2);
        });
        s.says(TERMS, "AWAYS (24): a PERSON, from, to", t -> {
            t.tell(ONE + ";away 3 5 7;away 3 0 0;away 3 999 999").due(-5, "decides", 0, 0, -1, 0).due(3, "decides", 0, 1, -1, 0)
                    .due(3, "decides", 0, 4, -1, 0);
            t.due(-5, "decides", 0, 5, -1, 0).due(-5, "decides", 0, 7, -1, 0).due(3, "decides", 0, 8, -1, 0).due(3, "decides", 0, 998, -1, 0)
                    .due(-5, "decides", 0, 999, -1, 0);
            for (int k = 3; k < 24; k++) {
                t.due(k, "away", 2, k, k);
            }
            t.refused(-2, "away", 3, 2, 2).due(3, "decides", 0, 2, -1, 0);
        });
        s.says(TERMS, "STANDS (24): a GIVER, a TAKER (another one), from, to, a CAP (0 to 9999)", t -> {
            t.tell(ONE + ";away 3 0 999;stand 3 4 5 7 0;stand 3 9 999 999 9999").due(-5, "decides", 0, 4, -1, 0).due(4, "decides", 0, 5, -1, 0)
                    .due(4, "decides", 0, 7, -1, 0);
            t.due(-5, "decides", 0, 8, -1, 0).due(0, "power", 4, 5, 0).due(9, "decides", 0, 999, -1, 0).due(-5, "decides", 0, 998, -1, 0)
                    .due(100, "power", 9, 999, 0);
            t.refused(-1, "stand", 4, 4, 5, 7, 0).does(1, 5, "stand", 4, 4, 5, 7, 0);
            for (int k = 2; k < 24; k++) {
                t.due(k, "stand", 3, 5, 8, 8, k);
            }
            t.refused(-2, "stand", 3, 5, 9, 9, 9).due(-5, "decides", 0, 9, -1, 0);
        });
        s.says(TERMS, "FOES (16): a PERSON, a VENDOR", t -> {
            t.tell(ONE + ";foe 3 0;foe 3 5;foe 3 9;foe 4 1").due(-7, "decides", 0, 0, -1, 0).due(3, "decides", 0, 0, -1, 1)
                    .due(3, "decides", 0, 0, -1, 4);
            t.due(-7, "decides", 0, 0, -1, 5).due(3, "decides", 0, 0, -1, 6).due(3, "decides", 0, 0, -1, 8).due(-7, "decides", 0, 0, -1, 9)
                    .due(-7, "decides", 0, 0, -1, 29);
            for (int k = 4; k < 16; k++) {
                t.due(k, "foe", k, 8);
            }
            t.refused(-2, "foe", 3, 4).due(3, "decides", 0, 0, -1, 4);
        });
    }

    private static void settings(Sentences s) {
        s.says(TERMS, "WINDOW 0 to 99 (0 at first), PACE 0 to 9 (1), WAIT 0 to 30 (2)", t -> {
            t.due(0, "count", 5).due(1, "count", 6).due(2, "count", 7).range(1, 0, 99, "set", 0, 5).range(1, 0, 9, "set", 1, 5)
                    .range(1, 0, 30, "set", 2, 5);
            t.tell("window 99;pace 9;wait 30").due(99, "count", 5).due(9, "count", 6).due(30, "count", 7).dueFault(7, 2, "window 100")
                    .dueFault(5, 2, "pace 10").dueFault(5, 2, "wait 31");
            t.tell("window 0;pace 0;wait 0").due(0, "count", 5).due(0, "count", 6).due(0, "count", 7);
            t.tell("pace 7").due(0, "count", 5).due(7, "count", 6).due(2, "count", 7).tell("foe 1 1").due(1, "count", 6);
        });
    }

    // ---- requests ----

    private static void requests(Sentences s) {
        s.says(TERMS, "REQUESTS 0, 1, .. (40 at most)", t -> {
            t.tell(ONE);
            for (int k = 0; k < 40; k++) {
                t.due(k, "request", 1, 0, 0, 1, k);
            }
            t.refused(-2, "request", 1, 0, 0, 1, 41).due(40, "count", 8).due(39, "asked", 39, 5).due(-1, "asked", 40, 5).due(0, "asked", 0, 5)
                    .due(-1, "asked", -1, 5);
        });
        s.says(TERMS, "by a PERSON, at a POST, for a VENDOR, of a KIND, an AMOUNT (1 to 9999), a DAY", t -> {
            t.tell(ONE).range(3, 1, 9999, "request", 1, 0, 0, 1, 0).due(0, "request", 15, 0, 29, 9999, 999).due(1, "request", 0, 0, 0, 1, 0);
            t.dueRow("asked", new int[] {0}, 15, 0, 9, 2, 9999, 999, -2).dueRow("asked", new int[] {1}, 0, 0, 0, 0, 1, 0, -2)
                    .range(1, 1, 9999, "amend", 0, 1, 999);
            t.range(3, 1, 9999, "dodge", 1, 0, 0, 1, 0);
        });
        s.says(TERMS, "RECALLED on a DAY, or not", t -> {
            t.tell("post top 0 0 0").due(0, "request", 1, 0, 0, 1, 0).due(1, "request", 1, 0, 0, 1, 0).due(0, "count", 9).due(1, "recall", 0, 0);
            t.due(0, "asked", 0, 6).due(-2, "asked", 1, 6).due(1, "count", 9).due(3, "ends", 0, 0).due(2, "ends", 1, 0);
        });
    }

    /** An order of which there is as much as there may be, each number another one. */
    private static Trial full(Trial t) {
        StringBuilder text = new StringBuilder("post top 100 200 300");
        for (int post = 1; post < 12; post++) {
            text.append(";post " + (post - 1) + " " + (100 + post) + " " + (200 + post) + " " + (300 + post));
        }
        t.tell(text.toString());
        for (int k = 0; k < 24; k++) {
            t.due(k, "hold", k % 12, k % 16, k, 900 + k).due(k, "away", k % 16, 30 + k, 500 + k)
                    .due(k, "stand", k % 16, (k + 1) % 16, 60 + k, 600 + k, 1000 + k);
        }
        for (int k = 0; k < 16; k++) {
            t.due(k, "foe", k, k % 10);
        }
        for (int k = 0; k < 40; k++) {
            t.due(k, "request", k % 16, k % 12, k % 30, 5000 + k, 700 + k);
        }
        return t;
    }

    private static void seeFullOrder(Trial t) {
        for (int post = 0; post < 12; post++) {
            t.dueRow("post", new int[] {post}, post == 0 ? -2 : post - 1, 100 + post, 200 + post, 300 + post);
        }
        for (int k = 0; k < 24; k++) {
            t.dueRow("entry", new int[] {0, k}, k % 12, k % 16, k, 900 + k).dueRow("entry", new int[] {1, k}, k % 16, 30 + k, 500 + k);
        }
    }

    private static void seeFullRequests(Trial t) {
        for (int k = 0; k < 24; k++) {
            t.dueRow("entry", new int[] {2, k}, k % 16, (k + 1) % 16, 60 + k, 600 + k, 1000 + k);
        }
        for (int k = 0; k < 16; k++) {
            t.dueRow("entry", new int[] {3, k}, k, k % 10);
        }
        for (int k = 24; k < 40; k++) {
            t.dueRow("asked", new int[] {k}, k % 16, k % 12, k % 30 % 10, k % 30 / 10, 5000 + k, 700 + k, -2);
        }
    }

    /** The last one of each kind goes, and comes again: the kinds do not reach into one another. */
    private static Trial lastOnesAnew(Trial t) {
        t.due(23, "drop", 0, 23).due(23, "drop", 1, 23).due(23, "drop", 2, 23).due(15, "drop", 3, 15);
        return t.due(23, "hold", 11, 7, 23, 923).due(23, "away", 7, 53, 523).due(23, "stand", 7, 8, 83, 623, 1023).due(15, "foe", 15, 5);
    }

    private static void allFull(Sentences s) {
        s.says(TERMS, "POSTS 0, 1, .. (12 at most, as they were told)", t -> {
            seeFullOrder(full(t));
            seeFullRequests(full(t.another()));
            Trial kept = full(t.another()).due(40, "keep", 1).tell("").due(40, "back", 1);
            seeFullOrder(kept);
            kept = full(t.another()).due(40, "keep", 0).due(23, "drop", 2, 0).due(40, "back", 0);
            seeFullRequests(kept);
        });
        s.says(12, "those behind it get a number less", t -> {
            seeFullOrder(lastOnesAnew(full(t)));
            seeFullRequests(lastOnesAnew(full(t.another())));
        });
        s.says(TERMS, "REQUESTS 0, 1, .. (40 at most)", t -> {
            full(t);
            for (int k = 0; k < 24; k++) {
                t.dueRow("asked", new int[] {k}, k % 16, k % 12, k % 30 % 10, k % 30 / 10, 5000 + k, 700 + k, -2);
            }
            t.dueRow("post", new int[] {11}, 10, 111, 211, 311).due(300, "limit", 0, 2, 9999).due(311, "limit", 11, 2, 9999).due(0, "asked", 0, 0)
                    .due(15, "drop", 3, 0).due(9, "entry", 3, 8, 1);
        });
    }

    private static void joining(Sentences s) {
        String free = "post top 0 0 0;post 0 0 0 0;window ";
        s.says(TERMS, "JOINED with it: REQUESTS with a lesser number by the same PERSON, for the same VENDOR, of the same KIND", t -> {
            t.tell(free + 5).due(0, "request", 1, 0, 11, 10, 100).due(1, "request", 1, 1, 11, 20, 100).due(2, "request", 2, 0, 11, 30, 100)
                    .due(3, "request", 1, 0, 12, 40, 100);
            t.due(4, "request", 1, 0, 21, 50, 100).due(5, "request", 1, 0, 1, 60, 100).due(6, "request", 1, 1, 11, 70, 100);
            t.due(0, "joined", 0).due(1, "joined", 1).due(0, "joined", 2).due(0, "joined", 3).due(0, "joined", 4).due(0, "joined", 5)
                    .due(3, "joined", 6);
        });
        s.says(TERMS, "that were not RECALLED up to its DAY", t -> {
            t.tell(free + 99).due(0, "request", 1, 0, 0, 1, 10).due(1, "request", 1, 0, 0, 2, 19).due(2, "request", 1, 0, 0, 4, 20)
                    .due(3, "request", 1, 0, 0, 8, 21);
            t.due(1, "joined", 1).due(3, "joined", 2).due(7, "joined", 3).due(1, "recall", 0, 20).due(1, "joined", 1).due(2, "joined", 2)
                    .due(6, "joined", 3);
            t.due(1, "recall", 2, 999).due(2, "joined", 2).due(6, "joined", 3).due(4, "request", 1, 0, 0, 16, 98).due(14, "joined", 4);
            t.another().tell(free + 5).due(0, "request", 1, 0, 0, 1, 0).due(1, "request", 1, 0, 0, 1, 5).due(2, "request", 1, 0, 0, 1, 10)
                    .due(3, "joined", 2)
                    .due(1, "recall", 1, 10).due(0, "joined", 2).due(3, "undo").due(1, "recall", 1, 11).due(3, "joined", 2);
        });
        s.says(TERMS, "and whose DAY is WINDOW DAYS at most from its own or from that of one that is JOINED with it", t -> {
            t.tell(free + 5).due(0, "request", 1, 0, 0, 10, 100).due(1, "request", 1, 0, 0, 20, 105).due(2, "request", 1, 0, 0, 40, 94)
                    .due(3, "request", 1, 0, 0, 80, 95);
            t.due(1, "joined", 1).due(0, "joined", 2).due(7, "joined", 3).due(4, "request", 1, 0, 0, 1, 110).due(15, "joined", 4)
                    .due(5, "request", 1, 0, 0, 1, 116).due(0, "joined", 5);
            t.due(5, "set", 0, 6).due(3, "joined", 2).due(31, "joined", 5).due(6, "set", 0, 0).due(0, "joined", 3).due(6, "request", 1, 0, 0, 1, 110)
                    .due(16, "joined", 6);
            t = t.another().tell(free + 99).due(0, "request", 1, 0, 0, 1, 0).due(1, "request", 1, 0, 0, 1, 99).due(2, "request", 2, 0, 0, 1, 0)
                    .due(3, "request", 2, 0, 0, 1, 100);
            t.due(1, "joined", 1).due(0, "joined", 3).due(4, "request", 2, 0, 0, 1, 199).due(8, "joined", 4).due(5, "request", 2, 0, 0, 1, 50)
                    .due(28, "joined", 5);
            t = t.another().tell(free + 5).due(0, "request", 1, 0, 0, 1, 0).due(1, "request", 1, 0, 0, 1, 10).due(2, "request", 1, 0, 0, 1, 5)
                    .due(0, "joined", 1).due(3, "joined", 2);
            t.due(3, "request", 2, 0, 0, 1, 0).due(4, "request", 1, 1, 1, 1, 5).due(5, "request", 2, 0, 0, 1, 10).due(0, "joined", 5);
        });
        s.says(TERMS, "WHOLE: its AMOUNT and theirs, together.", t -> {
            t.tell(free + 99 + ";hold 1 3 0 999");
            for (int k = 0; k < 40; k++) {
                t.due(k, "request", 1, 1, 0, 9999, 0);
            }
            t.due(9999, "asked", 0, 7).due(19998, "asked", 1, 7).due(399960, "asked", 39, 7).due(39, "asked", 39, 8).due((1L << 39) - 1, "joined", 39)
                    .due(0, "asked", 0, 8);
            t.due(0, "limit", 1, 0, 9999).due(1, "ends", 0, 0).due(2, "ends", 1, 0).due(2, "ends", 39, 0);
            t = t.another().tell("post top 100 0 0;hold 0 3 0 999").due(0, "request", 1, 0, 0, 40, 7).due(1, "request", 1, 0, 0, 60, 7)
                    .due(2, "request", 1, 0, 0, 1, 7);
            t.due(1, "ends", 0, 0).due(1, "ends", 1, 0).due(2, "ends", 2, 0).due(101, "asked", 2, 7).due(3, "request", 1, 0, 0, 100, 8)
                    .due(1, "ends", 3, 0);
        });
    }

    // ---- acts, shelves, answers ----

    private static void actsAndShelves(Sentences s) {
        s.says(TERMS, "ACTS: all from request() to set()", t -> {
            t.tell(TWO).due(0, "request", 1, 1, 0, 400, 5).due(1, "recall", 0, 5).due(1, "request", 1, 1, 0, 400, 5).due(2, "amend", 1, 401, 5)
                    .due(4, "count", 11);
            t.due(2, "hold", 1, 1, 1, 1).due(1, "away", 1, 1, 1).due(1, "stand", 1, 2, 1, 1, 1).due(1, "foe", 1, 1).due(1, "drop", 3, 1)
                    .due(500, "limit", 0, 0, 499).due(10, "count", 11);
            t.due(0, "set", 0, 1).due(10, "count", 11).due(9, "undo").due(9, "count", 11).due(1, "set", 1, 2).due(10, "count", 11).due(9, "undo");
            t.due(20, "feed", 0, 0, 0, 0, 0).due(9, "end", 9).due(3, "keep", 0).due(3, "keep", 1).due(2, "tangle", 0).due(9, "count", 11)
                    .due(8, "undo").due(8, "count", 11);
        });
        s.says(TERMS, "The last 10 can be UNDONE, the last first.", t -> {
            for (int value = 1; value <= 12; value++) {
                t.due(value - 1, "set", 0, value).due(Math.min(value, 10), "count", 11);
            }
            for (int left = 9; left >= 0; left--) {
                t.due(left, "undo").due(left + 2, "count", 5);
            }
            t.refused(-1, "undo").due(2, "count", 5).due(2, "set", 0, 50).due(0, "undo").due(2, "count", 5).refused(-1, "undo");
        });
        s.says(TERMS, "SHELVES 0, 1: all but TAPE, SHELVES.", t -> {
            t.range(0, 0, 1, "keep", 0).tell(TWO + ";window 3").due(0, "request", 1, 1, 0, 400, 5).feed("foe 1 2").due(1, "keep", 0).due(0, "end", 0)
                    .due(1, "keep", 1);
            t.tell("").feed("foe 3").due(1, "back", 0).due(5, "count", 12).due(3, "count", 13).dueLetters(TWO + ";window 3").due(400, "asked", 0, 4);
            t.range(0, 0, 1, "back", 0).due(1, "back", 1).due(5, "count", 12).due(3, "count", 13);
        });
        s.says(TERMS, "The k-th: from 0 on.", t -> {
            t.tell(TWO).due(0, "request", 1, 1, 0, 101, 5).due(1, "step", 0, 0, 0).due(0, "step", 0, 1, 0).due('p', "letter", 0)
                    .due('o', "letter", 1);
            t.due(3, "chain", 0, 0, 0).due(7, "chain", 0, 1, 0).due(3, "entry", 0, 0, 1).due(7, "entry", 0, 1, 1).due(1, "drop", 0, 0)
                    .due(7, "entry", 0, 0, 1);
        });
    }

    private static void whichAnswerGoesAhead(Sentences s) {
        s.says(TERMS, "Where NONE and another answer fit, it is NONE", t -> {
            t.tell(ONE).due(0, "request", 1, 0, 0, 1, 5).refused(-3, "recall", 0, 5).refused(-1, "recall", 0, 4).refused(-3, "amend", 0, 1, 5)
                    .refused(-1, "amend", 0, 0, 5);
            t.refused(-2, "set", 0, 0).refused(-1, "set", 3, 0).refused(-2, "limit", 0, 0, 100).refused(-1, "limit", 0, 3, 100).refused(-2, "back", 0)
                    .refused(-1, "back", 2);
            t.due(-2, "letter", 1000).due(-1, "letter", -2).due(-2, "power", 4, 0, 0).due(-1, "power", 4, 1000, 0).due(-2, "chain", 0, 0, 1)
                    .due(-1, "chain", 0, 1, 1);
            t.due(-2, "asked", 0, 6).due(-1, "asked", 1, 6).due(-2, "cure", 0, 0).due(-1, "cure", 0, 2).due(-1, "cure", 1, 0)
                    .due(-2, "gap", 0, 0, 9, 1).due(-1, "gap", 0, 9, 0, 1);
            t.due(-2, "post", 0, 0).due(-1, "post", 1, 0).due(-1, "pillar", 2);
        });
        s.says(TERMS, "The constants: `NONE = -1`: None.", t -> {
            s.check(ApprovalRoutes.NONE == -1, "NONE is " + ApprovalRoutes.NONE);
            t.due(-1, "undo").due(ApprovalRoutes.NONE, "undo");
        });
        s.says(TERMS, "-2 ahead of -3.", t -> {
            t.tell(ONE).due(0, "request", 1, 0, 0, 1, 5).due(1, "request", 2, 0, 0, 101, 5).due(1, "recall", 1, 5).due(1, "ends", 0, 0);
            t.due(100, "limit", 0, 0, 9999).refused(-2, "recall", 1, 5).refused(-2, "recall", 1, 999).refused(-2, "amend", 1, 1, 5)
                    .refused(-3, "recall", 0, 5);
            for (int k = 2; k < 40; k++) {
                t.due(k, "request", 9, 0, 5, 1, k);
            }
            t.refused(-2, "amend", 0, 1, 5).refused(-2, "amend", 1, 1, 5).refused(-3, "recall", 0, 5).refused(-1, "amend", 0, 1, 4);
        });
    }
}
