/** What there is, who is busy, days of a post, the order as a text: promises 18 to 21, 26, 27, 32 to 37, 41, 43 and 44. */
final class EdgesOfAnswers {
    private static final String TALL = "post top 500 0 0;post 0 100 50 20;hold 1 3 0 999;hold 0 7 0 999";

    private EdgesOfAnswers() {}

    static void all(Sentences s) {
        posts(s);
        entries(s);
        asked(s);
        joined(s);
        power(s);
        rings(s);
        loads(s);
        undoneOnes(s);
        busiest(s);
        approved(s);
        could(s);
        manned(s);
        letters(s);
        gaps(s);
        tangles(s);
        counts(s);
    }

    // ---- what there is ----

    private static void posts(Sentences s) {
        s.says(18, "Of a POST what 0: its UPPER one (-2: none)", t -> {
            t.tell("post top 1 1 1;post top 1 1 1;post 0 1 1 1;post 1 1 1 1").due(-2, "post", 0, 0).due(-2, "post", 1, 0).due(0, "post", 2, 0)
                    .due(1, "post", 3, 0);
        });
        s.says(18, "1 to 3: LIMIT of KIND 0 to 2", t -> {
            t.tell("post top 0 9999 1;post 0 2 3 4").dueRow("post", new int[] {0}, -2, 0, 9999, 1).dueRow("post", new int[] {1}, 0, 2, 3, 4);
        });
        s.says(18, "4: how many POSTS are above it, 5: how many have it as UPPER", t -> {
            t.tell("post top 1 1 1" + ";post0 1 1 1".repeat(11)).due(0, "post", 0, 4).due(11, "post", 0, 5).due(1, "post", 11, 4)
                    .due(0, "post", 11, 5);
            t.tell("post top 0 0 0;post0 0 0 0;post1 0 0 0;post2 0 0 0;post3 0 0 0;post4 0 0 0;post5 0 0 0;post6 0 0 0;post7 0 0 0;post8 0 0 0;post9 0 0 0;post10 0 0 0");
            t.due(0, "post", 0, 4).due(1, "post", 0, 5).due(11, "post", 11, 4).due(0, "post", 11, 5).due(10, "post", 10, 4).due(1, "post", 10, 5);
            t.tell("post top 0 0 0;post top 0 0 0").due(0, "post", 0, 4).due(0, "post", 1, 4).due(0, "post", 0, 5).due(0, "post", 1, 5);
        });
        s.says(18, "NONE without these", t -> {
            t.due(-1, "post", 0, 0).tell(TALL).range(0, 0, 1, "post", 0, 0).range(0, 0, 1, "post", 0, 5)
                    .range(1, 0, 5, "post", 0, 0).range(1, 0, 5, "post", 1, 0);
            t.due(-1, "post", 2, 0).due(-1, "post", 2, 6).due(-1, "post", Trial.LOW, Trial.HIGH);
        });
    }

    private static void entries(Sentences s) {
        s.says(19, "Of a HOLD (kind 0: POST, PERSON, from, to), an AWAY (1: PERSON, from, to), a STAND (2: GIVER, TAKER, from, to, CAP), a FOE (3: PERSON, VENDOR) what 0, 1, ..", t -> {
            t.tell("post top 1 1 1;post 0 1 1 1;hold 1 15 0 999;hold 0 0 1 2;away 15 998 999;away 0 3 4;stand 14 15 0 999 9999;stand 0 1 5 6 0;foe 15 9;foe 0 0");
            t.dueRow("entry", new int[] {0, 0}, 1, 15, 0, 999, -1).dueRow("entry", new int[] {0, 1}, 0, 0, 1, 2, -1)
                    .dueRow("entry", new int[] {1, 0}, 15, 998, 999, -1).dueRow("entry", new int[] {1, 1}, 0, 3, 4, -1);
            t.dueRow("entry", new int[] {2, 0}, 14, 15, 0, 999, 9999, -1).dueRow("entry", new int[] {2, 1}, 0, 1, 5, 6, 0, -1)
                    .dueRow("entry", new int[] {3, 0}, 15, 9, -1).dueRow("entry", new int[] {3, 1}, 0, 0, -1);
        });
        s.says(19, "NONE without these", t -> {
            for (int kind = 0; kind < 4; kind++) {
                t.due(-1, "entry", kind, 0, 0);
            }
            t.tell("post top 1 1 1;hold 0 1 1 1;hold 0 1 1 1;away 1 1 1;stand 1 2 3 4 5;stand 1 2 3 4 5;stand 1 2 3 4 5;foe 1 1;foe 2 2");
            t.range(0, 0, 3, "entry", 0, 0, 0).range(1, 0, 1, "entry", 0, 0, 0).range(1, 0, 0, "entry", 1, 0, 0).range(1, 0, 2, "entry", 2, 0, 0)
                    .range(1, 0, 1, "entry", 3, 0, 0);
            t.range(2, 0, 3, "entry", 0, 0, 0).range(2, 0, 2, "entry", 1, 0, 0).range(2, 0, 4, "entry", 2, 0, 0).range(2, 0, 1, "entry", 3, 0, 0);
            t.due(0, "drop", 1, 0).due(-1, "entry", 1, 0, 0).due(-1, "entry", 4, 0, 0).due(-1, "entry", 5, 0, 0);
        });
        s.says(19, "what 0, 1, ..", t -> {
            for (int k = 0; k < 24; k++) {
                t.due(k, "stand", k % 16, (k + 1) % 16, k, k + 1, k + 2);
            }
            t.dueRow("entry", new int[] {2, 0}, 0, 1, 0, 1, 2, -1).dueRow("entry", new int[] {2, 23}, 7, 8, 23, 24, 25, -1)
                    .range(1, 0, 23, "entry", 2, 0, 0);
        });
    }

    private static void asked(Sentences s) {
        s.says(20, "Of a REQUEST what 0: PERSON, 1: POST, 2: VENDOR, 3: KIND, 4: AMOUNT, 5: DAY", t -> {
            t.tell(TALL).due(0, "request", 15, 1, 29, 9999, 999).due(1, "request", 0, 0, 0, 1, 0)
                    .dueRow("asked", new int[] {0}, 15, 1, 9, 2, 9999, 999, -2, 9999, 0, -1);
            t.dueRow("asked", new int[] {1}, 0, 0, 0, 0, 1, 0, -2, 1, 0, -1);
        });
        s.says(20, "6: the DAY on which it was RECALLED (-2: it is not)", t -> {
            t.tell("post top 0 0 0").due(0, "request", 1, 0, 0, 1, 0).due(1, "request", 1, 0, 0, 1, 0).due(-2, "asked", 0, 6).due(1, "recall", 0, 0)
                    .due(0, "asked", 0, 6).due(1, "recall", 1, 999).due(999, "asked", 1, 6);
            t.due(3, "undo").due(-2, "asked", 1, 6).due(0, "asked", 0, 6).due(2, "amend", 1, 5, 7).due(7, "asked", 1, 6).due(-2, "asked", 2, 6);
        });
        s.says(20, "7: WHOLE, 8: how many are JOINED with it", t -> {
            t.tell("post top 0 0 0;window 99");
            for (int k = 0; k < 40; k++) {
                t.due(k, "request", 1, 0, 0, 9999, 0);
            }
            t.due(9999, "asked", 0, 7).due(0, "asked", 0, 8).due(399960, "asked", 39, 7).due(39, "asked", 39, 8).due(1, "recall", 5, 0)
                    .due(389961, "asked", 39, 7).due(38, "asked", 39, 8).due(5, "asked", 5, 8);
        });
        s.says(20, "NONE without these", t -> {
            t.due(-1, "asked", 0, 0).tell(TALL).due(-1, "asked", 0, 0).due(0, "request", 1, 1, 1, 1, 1).due(1, "request", 1, 1, 1, 1, 1)
                    .range(0, 0, 1, "asked", 0, 0).range(0, 0, 1, "asked", 0, 8);
            t.range(1, 0, 8, "asked", 0, 0).due(-1, "asked", 2, 6).due(-1, "asked", 2, 9);
        });
    }

    private static void joined(Sentences s) {
        s.says(21, "REQUESTS that are JOINED with one, as bits", t -> {
            t.tell("post top 0 0 0;window 1");
            for (int k = 0; k < 40; k++) {
                t.due(k, "request", k % 2, 0, 0, 1, k);
            }
            t.due(0, "joined", 39).due(1, "set", 0, 2).due(0xAAAAAAAAAAL & (1L << 39) - 1, "joined", 39)
                    .due(0x5555555555L & (1L << 38) - 1, "joined", 38).due(0, "joined", 0).due(0, "joined", 1).due(1, "joined", 2);
            t.due(0x2AAAAAAAL, "joined", 31).due(0x55555555L, "joined", 32).due(0xAAAAAAAAL, "joined", 33).due(1, "recall", 31, 33)
                    .due(0, "joined", 33).due(0x200000000L, "joined", 35);
        });
        s.says(21, "NONE without it", t -> {
            t.due(-1, "joined", 0).tell(TALL).due(-1, "joined", 0).due(0, "request", 1, 1, 1, 1, 1).due(1, "request", 1, 1, 1, 1, 1)
                    .range(0, 0, 1, "joined", 0).due(1, "undo").due(-1, "joined", 1).due(0, "joined", 0);
        });
    }

    // ---- who ----

    private static void power(Sentences s) {
        s.says(26, "The greatest limit with which a PERSON would DECIDE on a DAY at some POST on a request of a KIND by none of the PERSONS, for a VENDOR of whom nobody is a FOE", t -> {
            t.tell("post top 0 5 9999;post 0 7 5 0;hold 0 1 5 7;hold 1 1 5 6;hold 1 2 7 9;away 2 8 8;stand 2 1 8 9 3;foe 1 0");
            t.dueRow("power", new int[] {1, 5}, 7, 5, 9999).dueRow("power", new int[] {1, 7}, 0, 5, 9999).dueRow("power", new int[] {1, 8}, 3, 3, 0)
                    .dueRow("power", new int[] {2, 7}, 7, 5, 0);
            for (int vendor = 1; vendor <= 9; vendor++) {
                t.due(vendor, "foe", 1, vendor);
            }
            t.dueRow("power", new int[] {1, 5}, 7, 5, 9999).dueRow("power", new int[] {1, 8}, 3, 3, 0);
        });
        s.says(26, "-2: at none", t -> {
            t.due(-2, "power", 0, 0, 0).tell("post top 0 5 9999;hold 0 1 5 7;away 1 6 6;stand 1 2 0 999 4;stand 2 3 0 999 4")
                    .due(-2, "power", 1, 4, 0).due(0, "power", 1, 5, 0).due(-2, "power", 1, 6, 0);
            t.due(0, "power", 2, 6, 0).due(-2, "power", 2, 5, 0).due(-2, "power", 3, 6, 0).due(0, "power", 1, 7, 0).due(-2, "power", 1, 8, 0)
                    .due(-2, "power", 0, 5, 0).due(-2, "power", 15, 999, 2);
        });
        s.says(26, "NONE without these", t -> {
            t.due(-1, "power", 16, 0, 0).due(-1, "power", 0, 1000, 0).due(-1, "power", 0, 0, 3).tell(TALL).range(0, 0, 15, "power", 3, 0, 0)
                    .range(1, 0, 999, "power", 3, 0, 0).range(2, 0, 2, "power", 3, 0, 0);
            t.range(1, 0, 999, "power", 0, 0, 0).due(-1, "power", -1, 0, 0);
        });
    }

    private static void rings(Sentences s) {
        s.says(27, "PERSONS that are in a ring of STANDS on a DAY (each from GIVER to TAKER, back to it), as bits", t -> {
            t.due(0, "ring", 0).tell("stand 0 1 5 7 0;stand 1 0 7 9 0;stand 1 2 0 999 9;stand 3 0 0 999 9;stand 15 14 0 0 0;stand 14 15 0 0 0");
            t.due(49152, "ring", 0).due(0, "ring", 1).due(0, "ring", 6).due(3, "ring", 7).due(0, "ring", 8).due(0, "ring", 999)
                    .due(6, "stand", 2, 3, 999, 999, 0).due(7, "stand", 0, 1, 999, 999, 0).due(15, "ring", 999).due(0, "ring", 998);
            t.tell("stand 0 1 0 0 0;stand 1 0 0 0 0;stand 1 2 0 0 0;stand 2 1 0 0 0;stand 2 3 0 0 0;stand 4 5 0 0 0;stand 5 6 0 0 0;stand 6 4 0 0 0;stand 6 3 0 0 0")
                    .due(119, "ring", 0);
            t.tell("");
            for (int person = 0; person < 15; person++) {
                t.due(person, "stand", person, person + 1, 9, 9, 0);
            }
            t.due(0, "ring", 9).due(15, "stand", 15, 0, 9, 9, 0).due(65535, "ring", 9).due(0, "ring", 8).due(0, "ring", 10);
        });
        s.says(27, "NONE without that DAY", t -> {
            t.range(0, 0, 999, "ring", 0).tell("stand 0 1 0 999 0;stand 1 0 0 999 0").range(0, 0, 999, "ring", 0).due(3, "ring", 0)
                    .due(3, "ring", 999);
        });
    }

    private static Trial busy(Trial t) {
        t.tell(TALL + ";away 3 10 10;stand 3 4 0 999 60;wait 0").due(0, "request", 1, 1, 0, 100, 5).due(1, "request", 1, 1, 1, 101, 5)
                .due(2, "request", 2, 1, 2, 50, 10);
        return t.due(3, "request", 2, 1, 3, 70, 10).due(4, "request", 3, 1, 0, 10, 5);
    }

    private static void loads(Sentences s) {
        s.says(32, "STEPS of all REQUESTS that are not RECALLED which a PERSON does, what 0: all, 1: APPROVED ones, 2: those in which it stands in", t -> {
            busy(t).dueRow("load", new int[] {3}, 2, 1, 0).dueRow("load", new int[] {7}, 3, 3, 0).dueRow("load", new int[] {4}, 2, 1, 2)
                    .dueRow("load", new int[] {0}, 0, 0, 0).dueRow("load", new int[] {15}, 0, 0, 0);
            t.due(5, "request", 1, 1, 4, 501, 20).dueRow("load", new int[] {3}, 3, 1, 0).dueRow("load", new int[] {7}, 4, 3, 0).due(1, "recall", 1, 5)
                    .dueRow("load", new int[] {3}, 2, 1, 0).dueRow("load", new int[] {7}, 3, 2, 0);
            t.due(1, "recall", 3, 10).dueRow("load", new int[] {4}, 1, 1, 1).dueRow("load", new int[] {7}, 2, 1, 0);
        });
        s.says(32, "NONE without these", t -> {
            t.due(-1, "load", 16, 0).due(-1, "load", -1, 0).due(-1, "load", 0, 3);
            busy(t).range(0, 0, 15, "load", 3, 0).range(1, 0, 2, "load", 3, 0);
        });
    }

    /** What was undone or dropped must not be counted any more, though its numbers may still lie about. */
    private static void undoneOnes(Sentences s) {
        s.says(32, "STEPS of all REQUESTS that are not RECALLED which a PERSON does", t -> {
            t.tell("post top 9 9 9;hold 0 1 0 999").due(0, "request", 9, 0, 0, 1, 0).dueRow("load", new int[] {1}, 1, 1, 0).due(0, "undo")
                    .dueRow("load", new int[] {1}, 0, 0, 0).dueRow("busiest", new int[0], -2, -2).dueRow("pillar", new int[0], -2, -2);
            t.dueRow("approved", new int[0], 0, 0, -2, -2).due(0, "count", 10).due(0, "away", 1, 0, 999).due(0, "drop", 1, 0)
                    .due(1, "decides", 0, 0, -1, 0).due(0, "foe", 1, 0).due(0, "drop", 3, 0).due(1, "decides", 0, 0, -1, 0);
            t.due(0, "stand", 1, 2, 0, 9, 9).due(0, "drop", 2, 0).due(0, "tangle", 0).due(0, "away", 1, 0, 999).due(-5, "decides", 0, 0, -1, 0)
                    .due(0, "drop", 0, 0).due(-4, "decides", 0, 0, -1, 0).due(0, "manned", 0, 0, 999, 0);
        });
    }

    private static void busiest(Sentences s) {
        s.says(33, "The PERSON with the most STEPS (as load()) (of several the least), what 0: which, 1: how many", t -> {
            busy(t).dueRow("busiest", new int[0], 7, 3).due(5, "request", 1, 1, 6, 5, 1).dueRow("busiest", new int[0], 3, 3)
                    .due(6, "request", 1, 0, 6, 5, 1).dueRow("busiest", new int[0], 7, 4);
        });
        s.says(33, "(of several the least)", t -> {
            t.tell("post top 9 9 9;post top 9 9 9;post top 9 9 9;hold 0 0 0 999;hold 1 1 0 999;hold 2 15 0 999").due(0, "request", 9, 2, 0, 1, 0)
                    .dueRow("busiest", new int[0], 15, 1).due(1, "request", 9, 1, 1, 1, 0);
            t.dueRow("busiest", new int[0], 1, 1).due(2, "request", 9, 0, 2, 1, 0).dueRow("busiest", new int[0], 0, 1)
                    .dueRow("pillar", new int[0], 0, 1).due(3, "request", 9, 1, 3, 1, 0).dueRow("busiest", new int[0], 1, 2)
                    .dueRow("pillar", new int[0], 1, 2);
        });
        s.says(33, "-2: there are no such STEPS", t -> {
            t.dueRow("busiest", new int[0], -2, -2).tell("post top 9 9 9").due(0, "request", 1, 0, 0, 1, 5).dueRow("busiest", new int[0], -2, -2)
                    .due(0, "hold", 0, 0, 6, 9).dueRow("busiest", new int[0], 0, 1);
            t.due(1, "recall", 0, 5).dueRow("busiest", new int[0], -2, -2);
        });
        s.says(33, "NONE for others", t -> {
            t.due(-1, "busiest", 2).due(-1, "busiest", -1);
            busy(t).range(0, 0, 1, "busiest", 0);
        });
    }

    private static void approved(Sentences s) {
        s.says(34, "Of REQUESTS that are APPROVED (not RECALLED), what 0: how many, 1: all AMOUNTS together", t -> {
            t.dueRow("approved", new int[0], 0, 0, -2, -2).tell("post top 9999 0 0;hold 0 3 0 999");
            for (int k = 0; k < 40; k++) {
                t.due(k, "request", 1, 0, 0, 9999, k);
            }
            t.dueRow("approved", new int[0], 40, 399960, 0, 0).due(9999, "limit", 0, 0, 9998).dueRow("approved", new int[0], 0, 0, -2, -2)
                    .due(1, "recall", 7, 7).due(9998, "limit", 0, 0, 9999);
            t.dueRow("approved", new int[0], 39, 389961, 0, 0);
        });
        s.says(34, "2: the most DAYS from its DAY to that on which it is, 3: which that is (of several the first)", t -> {
            t.tell(TALL + ";away 3 10 11").due(0, "request", 1, 1, 10, 51, 0).due(1, "request", 1, 1, 0, 5, 12).due(2, "request", 1, 1, 1, 5, 11)
                    .due(3, "request", 1, 1, 2, 101, 20).due(4, "request", 1, 1, 3, 5, 10);
            t.due(5, "request", 1, 1, 4, 5, 10).dueRow("approved", new int[0], 5, 121, 2, 4).due(1, "recall", 4, 11)
                    .dueRow("approved", new int[0], 4, 116, 2, 5).due(1, "recall", 5, 11);
            t.dueRow("approved", new int[0], 3, 111, 1, 2).due(1, "recall", 2, 11).dueRow("approved", new int[0], 2, 106, 1, 3)
                    .due(1, "recall", 3, 20).dueRow("approved", new int[0], 1, 5, 0, 1);
        });
        s.says(34, "-2: none (2, 3)", t -> {
            t.dueRow("approved", new int[0], 0, 0, -2, -2).tell(TALL + ";away 3 10 11").due(0, "request", 1, 1, 0, 501, 0)
                    .dueRow("approved", new int[0], 0, 0, -2, -2).due(1, "request", 1, 1, 1, 5, 10);
            t.dueRow("approved", new int[0], 1, 5, 2, 1).due(1, "recall", 1, 10).dueRow("approved", new int[0], 0, 0, -2, -2)
                    .due(2, "request", 1, 1, 2, 1, 0).dueRow("approved", new int[0], 1, 1, 0, 2);
        });
        s.says(34, "NONE for others", t -> {
            t.due(-1, "approved", 4).due(-1, "approved", -1).tell(TALL).due(0, "request", 1, 1, 0, 5, 0).range(0, 0, 3, "approved", 0);
        });
    }

    private static void could(Sentences s) {
        s.says(35, "PERSONS who could APPROVE a REQUEST at some POST from its own on upwards, on its DAY (as decides(), with a limit not below WHOLE), as bits", t -> {
            t.tell("post top 100 0 0;post 0 99 0 0;post 1 100 0 0;post 2 101 0 0;post 2 9999 0 0;hold 0 0 0 999;hold 1 1 0 999;hold 2 15 5 5;hold 3 4 0 999;hold 4 5 0 999")
                    .due(0, "request", 9, 3, 0, 100, 5);
            t.due(32785, "could", 0).due(101, "limit", 3, 0, 99).due(32769, "could", 0).due(99, "limit", 1, 0, 100).due(32771, "could", 0)
                    .due(1, "request", 9, 2, 1, 100, 4).due(3, "could", 1).due(2, "request", 9, 2, 1, 100, 6).due(3, "could", 2);
            t.due(3, "request", 0, 1, 0, 100, 5).due(2, "could", 3).due(4, "request", 9, 0, 2, 101, 5).due(0, "could", 4)
                    .due(5, "request", 9, 1, 5, 60, 5).due(6, "request", 9, 1, 5, 40, 5).due(3, "could", 6).due(7, "request", 9, 1, 5, 1, 5)
                    .due(0, "could", 7);
            t.due(0, "away", 1, 5, 5).due(1, "could", 6).due(0, "stand", 1, 8, 5, 5, 99).due(1, "could", 6).due(1, "stand", 1, 8, 5, 5, 100)
                    .due(1, "could", 6).due(1, "drop", 2, 0).due(257, "could", 6).due(1, "recall", 7, 5).due(0, "could", 7);
        });
        s.says(35, "at some POST from its own on upwards", t -> {
            t.tell("post top 5 0 0;post0 0 0 0;post1 0 0 0;post2 0 0 0;post3 0 0 0;post4 0 0 0;post5 0 0 0;post6 0 0 0;post7 0 0 0;post8 0 0 0;post9 0 0 0;post10 0 0 0;hold 0 1 0 999");
            t.due(0, "request", 9, 11, 0, 5, 0).due(2, "could", 0).due(1, "request", 9, 11, 1, 6, 0).due(0, "could", 1).due(1, "hold", 11, 2, 0, 999)
                    .due(0, "limit", 11, 0, 5).due(6, "could", 0).due(2, "request", 9, 10, 2, 5, 0).due(2, "could", 2);
        });
        s.says(35, "NONE without it", t -> {
            t.due(-1, "could", 0).tell(TALL).due(-1, "could", 0).due(0, "request", 1, 1, 0, 5, 0).due(1, "request", 1, 1, 0, 999, 0)
                    .range(0, 0, 1, "could", 0).due(136, "could", 0).due(0, "could", 1);
        });
    }

    // ---- days of a post ----

    private static void manned(Sentences s) {
        String post = "post top 0 0 0;hold 0 1 10 19;hold 0 2 15 24;hold 0 3 30 30;away 1 12 13;away 2 24 24;stand 1 5 13 13 0;foe 3 1";
        s.says(36, "DAYS from one to another one on which a POST has a HOLDER, what 0", t -> {
            t.tell(post).due(16, "manned", 0, 0, 999, 0).due(0, "manned", 0, 0, 9, 0).due(1, "manned", 0, 0, 10, 0).due(15, "manned", 0, 10, 24, 0)
                    .due(15, "manned", 0, 10, 29, 0).due(1, "manned", 0, 24, 24, 0);
            t.due(0, "manned", 0, 25, 29, 0).due(1, "manned", 0, 30, 30, 0).due(0, "manned", 0, 31, 999, 0).due(3, "hold", 0, 0, 0, 999)
                    .due(1000, "manned", 0, 0, 999, 0).due(1, "manned", 0, 999, 999, 0).due(1, "manned", 0, 0, 0, 0);
        });
        s.says(36, "on which someone DECIDES there on a request by none of the PERSONS, for a VENDOR of whom nobody is a FOE, 1", t -> {
            t.tell(post).due(14, "manned", 0, 0, 999, 1).due(2, "manned", 0, 10, 12, 1).due(1, "manned", 0, 12, 13, 1).due(0, "manned", 0, 12, 12, 1)
                    .due(1, "manned", 0, 13, 13, 1).due(0, "manned", 0, 24, 29, 1).due(1, "manned", 0, 24, 30, 1);
            t.due(1, "manned", 0, 23, 24, 1).due(1, "manned", 0, 30, 999, 1).due(0, "manned", 0, 0, 9, 1);
        });
        s.says(36, "NONE without these (the second not below the first)", t -> {
            t.due(-1, "manned", 0, 0, 0, 0).tell(TALL).range(0, 0, 1, "manned", 0, 5, 9, 0).range(1, 0, 9, "manned", 0, 5, 9, 0)
                    .range(2, 5, 999, "manned", 0, 5, 9, 1).range(3, 0, 1, "manned", 0, 5, 9, 0);
            t.due(-1, "manned", 0, 9, 8, 0).due(1, "manned", 0, 9, 9, 0).due(-1, "manned", 0, 999, 1000, 0).due(-1, "manned", 0, -1, 0, 0)
                    .due(-1, "manned", 0, Trial.LOW, Trial.HIGH, 1);
        });
    }

    private static void gaps(Sentences s) {
        String post = "post top 0 0 0;hold 0 1 10 19;hold 0 2 15 24;hold 0 3 30 30;away 1 12 13;away 2 24 24;stand 1 5 13 13 0;foe 3 1";
        s.says(41, "DAYS from one to another one on which nobody DECIDES at a POST (as manned(), what 1), what 0: how many", t -> {
            t.tell(post).due(986, "gap", 0, 0, 999, 0).due(1, "gap", 0, 10, 23, 0).due(2, "gap", 0, 10, 24, 0).due(0, "gap", 0, 13, 23, 0)
                    .due(0, "gap", 0, 30, 30, 0).due(1, "gap", 0, 12, 12, 0).due(1, "gap", 0, 9, 10, 0);
            t.tell("post top 0 0 0").due(1000, "gap", 0, 0, 999, 0).due(1, "gap", 0, 999, 999, 0);
        });
        s.says(41, "1: the first (-2: none)", t -> {
            t.tell(post).due(0, "gap", 0, 0, 999, 1).due(12, "gap", 0, 10, 999, 1).due(12, "gap", 0, 12, 999, 1).due(24, "gap", 0, 13, 999, 1)
                    .due(-2, "gap", 0, 13, 23, 1).due(24, "gap", 0, 13, 24, 1).due(-2, "gap", 0, 30, 30, 1).due(31, "gap", 0, 30, 31, 1);
            t.due(999, "gap", 0, 999, 999, 1).due(3, "hold", 0, 4, 0, 999).due(12, "gap", 0, 0, 999, 1);
        });
        s.says(41, "2: the most one behind the other", t -> {
            t.tell(post).due(969, "gap", 0, 0, 999, 2).due(10, "gap", 0, 0, 30, 2).due(10, "gap", 0, 0, 40, 2).due(11, "gap", 0, 0, 41, 2)
                    .due(6, "gap", 0, 10, 30, 2).due(1, "gap", 0, 10, 24, 2).due(0, "gap", 0, 13, 23, 2).due(0, "gap", 0, 30, 30, 2);
            t.due(5, "gap", 0, 5, 15, 2).due(6, "gap", 0, 24, 36, 2).tell("post top 0 0 0;hold 0 1 500 500").due(500, "gap", 0, 0, 999, 2)
                    .due(499, "gap", 0, 1, 999, 2);
        });
        s.says(41, "NONE without these (the second not below the first)", t -> {
            t.due(-1, "gap", 0, 0, 0, 0).tell(TALL).range(0, 0, 1, "gap", 0, 5, 9, 0).range(1, 0, 9, "gap", 0, 5, 9, 0)
                    .range(2, 5, 999, "gap", 0, 5, 9, 1).range(3, 0, 2, "gap", 0, 5, 9, 0);
            t.due(-1, "gap", 0, 9, 8, 1).due(-2, "gap", 0, 9, 9, 1).due(-1, "gap", 0, 999, 1000, 1).due(-1, "gap", 0, -1, 0, 1)
                    .due(-1, "gap", 0, Trial.LOW, Trial.HIGH, 1);
        });
    }

    // ---- the order as a text, lines of stands, numbers of all ----

    private static void letters(Sentences s) {
        s.says(37, "POSTS, HOLDS, AWAYS, STANDS, FOES, each in order, then WINDOW, PACE, WAIT as far as they are not as at first", t -> {
            t.tell("wait 3;pace 4;foe 9 8;window 5;foe 1 2;stand 1 2 3 4 5;away 6 7 8;post top 1 2 3;away 1 2 3;hold 0 1 2 3;post 0 4 5 6;stand 0 1 0 0 0;hold 1 0 0 0");
            t.dueLetters("post top 1 2 3;post 0 4 5 6;hold 0 1 2 3;hold 1 0 0 0;away 6 7 8;away 1 2 3;stand 1 2 3 4 5;stand 0 1 0 0 0;foe 9 8;foe 1 2;window 5;pace 4;wait 3");
            t.tell("window 0;pace 1;wait 2").dueLetters("").tell("window 1;pace 0;wait 1").dueLetters("window 1;pace 0;wait 1").tell("wait 3")
                    .dueLetters("wait 3").tell("pace 2").dueLetters("pace 2");
            t.due(2, "set", 1, 1).dueLetters("").due(0, "set", 0, 99).dueLetters("window 99").due(2, "set", 2, 0).dueLetters("window 99;wait 0");
        });
        s.says(37, "one blank between WORDS and NUMBERS, ; without blanks between PARTS", t -> {
            t.tell("  post   top0001   02 3 ;  foe1 2  ").dueLetters("post top 1 2 3;foe 1 2")
                    .tell("post top 0 9 10;post0 99 100 999;post1 1000 9999 0");
            t.dueLetters("post top 0 9 10;post 0 99 100 999;post 1 1000 9999 0");
        });
        s.says(37, "k NONE: how many; -2: it has not so many; NONE for k below NONE.", t -> {
            t.due(0, "letter", -1).due(-2, "letter", 0).due(-2, "letter", Trial.HIGH).due(-1, "letter", -2).due(-1, "letter", Trial.LOW)
                    .tell("foe 1 2").due(7, "letter", -1).due('f', "letter", 0).due('2', "letter", 6);
            t.due(-2, "letter", 7).due(-2, "letter", 8).due(-2, "letter", Trial.HIGH).due(-1, "letter", -2).due(-1, "letter", -3)
                    .due(-1, "letter", Trial.LOW);
        });
        s.says(37, "The k-th byte of the ORDER as a TEXT", t -> {
            StringBuilder longest = new StringBuilder("post top 9999 9999 9999");
            t.tell("post top 9999 9999 9999" + ";post 0 9999 9999 9999".repeat(11));
            longest.append(";post 0 9999 9999 9999".repeat(11)).append(";hold 11 15 998 999".repeat(24)).append(";away 15 998 999".repeat(24))
                    .append(";stand 14 15 998 999 9999".repeat(24));
            for (int k = 0; k < 24; k++) {
                t.due(k, "hold", 11, 15, 998, 999).due(k, "away", 15, 998, 999).due(k, "stand", 14, 15, 998, 999, 9999);
            }
            for (int k = 0; k < 16; k++) {
                t.due(k, "foe", k, 9);
                longest.append(";foe " + k + " 9");
            }
            longest.append(";window 99;pace 9;wait 30");
            t.due(0, "set", 0, 99).due(1, "set", 1, 9).due(2, "set", 2, 30).due(longest.length(), "letter", -1)
                    .due('0', "letter", longest.length() - 1).due(-2, "letter", longest.length()).dueLetters(longest.toString());
        });
    }

    private static void tangles(Sentences s) {
        s.says(43, "The most different PERSONS in a line, each a GIVER of a STAND of a DAY to the next one", t -> {
            t.tell("stand 0 1 5 7 0;stand 1 2 7 9 0;stand 2 0 7 7 0;stand 2 3 7 7 0;stand 15 14 999 999 0").due(2, "tangle", 5).due(4, "tangle", 7)
                    .due(2, "tangle", 8).due(2, "tangle", 999);
            t.tell("stand 0 1 0 0 0;stand 1 0 0 0 0").due(2, "tangle", 0)
                    .tell("stand 0 1 0 0 0;stand 0 2 0 0 0;stand 2 3 0 0 0;stand 1 3 0 0 0;stand 3 4 0 0 0;stand 5 4 0 0 0").due(4, "tangle", 0);
            t.tell("stand 0 1 0 0 0;stand 1 2 0 0 0;stand 2 1 0 0 0").due(3, "tangle", 0)
                    .tell("stand 1 2 0 0 0;stand 2 1 0 0 0;stand 2 3 0 0 0;stand 0 1 0 0 0;stand 3 0 0 0 0").due(4, "tangle", 0).tell("");
            for (int person = 0; person < 15; person++) {
                t.due(person, "stand", person, person + 1, 9, 9, 0).due(person + 2, "tangle", 9);
            }
            t.due(15, "stand", 15, 0, 9, 9, 0).due(16, "tangle", 9).due(0, "tangle", 8).due(0, "tangle", 10).due(15, "drop", 2, 7)
                    .due(16, "tangle", 9).due(14, "drop", 2, 3).due(12, "tangle", 9);
        });
        s.says(43, "0 without such STANDS", t -> {
            t.due(0, "tangle", 0).due(0, "tangle", 999).due(0, "stand", 1, 2, 5, 6, 0).due(0, "tangle", 4).due(2, "tangle", 5).due(2, "tangle", 6)
                    .due(0, "tangle", 7);
        });
        s.says(43, "NONE without that DAY", t -> {
            t.range(0, 0, 999, "tangle", 0).due(0, "stand", 1, 2, 0, 999, 0).range(0, 0, 999, "tangle", 0).due(2, "tangle", 0).due(2, "tangle", 999);
        });
    }

    private static void counts(Sentences s) {
        s.says(44, "What 0: POSTS, 1: HOLDS, 2: AWAYS, 3: STANDS, 4: FOES, 5: WINDOW, 6: PACE, 7: WAIT, 8: REQUESTS, 9: RECALLED ones, 10: STUCK ones (not RECALLED), 11: ACTS that can be UNDONE, 12: bytes of the TAPE", t -> {
            t.tell(TALL + ";hold 0 0 0 0;away 9 0 0;away 9 1 1;away 9 2 2;away 9 3 3;stand 1 2 3 4 5;foe 1 2;foe 1 3;foe 1 4;foe 1 5;foe 1 6;window 7;pace 8;wait 9");
            t.due(0, "request", 1, 1, 0, 5, 0).due(1, "request", 1, 1, 11, 501, 0).due(2, "request", 1, 1, 12, 501, 0)
                    .due(3, "request", 1, 1, 13, 501, 0).due(4, "request", 1, 1, 4, 101, 0).due(1, "recall", 1, 0).feed("0123456789abc");
            t.dueRow("count", new int[0], 2, 3, 4, 1, 5, 7, 8, 9, 5, 1, 2, 6, 13, 0);
        });
        s.says(44, "8: REQUESTS, 9: RECALLED ones, 10: STUCK ones (not RECALLED)", t -> {
            t.due(0, "count", 8).due(0, "count", 9).due(0, "count", 10).tell(TALL).due(0, "request", 1, 1, 0, 501, 0).due(1, "count", 10)
                    .due(1, "request", 1, 1, 1, 500, 0).due(1, "count", 10).due(2, "request", 1, 1, 2, 501, 0);
            t.due(2, "count", 10).due(3, "request", 1, 1, 3, 501, 999).due(3, "count", 10).due(4, "request", 1, 1, 4, 101, 999).due(4, "count", 10)
                    .due(1, "recall", 0, 0).due(3, "count", 10).due(1, "count", 9).due(500, "limit", 0, 0, 501).due(2, "count", 10);
            t.due(1, "recall", 1, 0).due(2, "count", 10).due(2, "count", 9).due(5, "count", 8);
        });
        s.says(44, "13: SHELVES on which something is KEPT, as bits", t -> {
            t.due(0, "count", 13).due(0, "keep", 1).due(2, "count", 13).due(0, "keep", 1).due(2, "count", 13).due(0, "keep", 0).due(3, "count", 13)
                    .due(0, "back", 0).due(3, "count", 13).tell("").due(3, "count", 13);
            t.another().due(0, "keep", 0).due(1, "count", 13);
        });
        s.says(44, "NONE for others", t -> {
            t.range(0, 0, 13, "count", 0).tell(TALL).due(0, "request", 1, 1, 0, 5, 0).range(0, 0, 13, "count", 0);
        });
    }
}
