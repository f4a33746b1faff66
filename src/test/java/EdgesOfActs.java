/** A new object, the acts, what is undone and what is kept: promises 1 and 5 to 17. */
final class EdgesOfActs {
    /** Nobody holds its posts, so that every request is stuck. */
    private static final String EMPTY = "post top 100 50 20;post 0 10 20 30";
    /** What post 1 does not cover goes on to post 0 a day later. */
    private static final String TALL = "post top 500 0 0;post 0 100 50 20;hold 1 3 0 999;hold 0 7 0 999";
    private static final String FULL = "post top 1 2 3;hold 0 1 2 3;away 4 5 6;stand 7 8 9 10 11;foe 12 3;window 4;pace 5;wait 6";

    private EdgesOfActs() {}

    static void all(Sentences s) {
        aNewObject(s);
        requesting(s);
        recalling(s);
        amending(s);
        holding(s);
        beingAway(s);
        standing(s);
        foes(s);
        dropping(s);
        limits(s);
        setting(s);
        undoing(s);
        keeping(s);
        goingBack(s);
    }

    private static void aNewObject(Sentences s) {
        s.says(1, "No POSTS.", t -> {
            t.dueRow("count", new int[0], 0, 0, 0, 0, 0, 0, 1, 2, 0, 0, 0, 0, 0, 0);
            t.refused(-1, "post", 0, 0).refused(-1, "request", 0, 0, 0, 1, 0).refused(-1, "hold", 0, 0, 0, 0).refused(-1, "limit", 0, 0, 1);
            t.due(-1, "decides", 0, 0, -1, 0).due(-1, "manned", 0, 0, 0, 0).due(-1, "gap", 0, 0, 0, 0).due(-1, "dodge", 0, 0, 0, 1, 0);
            t.due(0, "letter", -1).due(-2, "letter", 0).refused(-1, "undo").refused(-2, "back", 0).refused(-2, "back", 1);
            t.due(-2, "power", 0, 0, 0).due(0, "ring", 0).due(0, "tangle", 0).due(0, "load", 0, 0).due(-2, "busiest", 0).due(-2, "pillar", 0);
            t.due(0, "approved", 0).due(-2, "approved", 2).due(0, "away", 0, 0, 0).due(0, "stand", 0, 1, 0, 0, 0).due(0, "foe", 0, 0);
        });
    }

    // ---- requests ----

    private static void requesting(Sentences s) {
        s.says(5, "One REQUEST more: its number", t -> {
            t.tell(EMPTY).due(0, "request", 15, 1, 29, 9999, 999).due(1, "request", 0, 0, 0, 1, 0).due(2, "request", 0, 0, 0, 1, 0);
            t.dueRow("asked", new int[] {0}, 15, 1, 9, 2, 9999, 999, -2).dueRow("asked", new int[] {1}, 0, 0, 0, 0, 1, 0, -2);
        });
        s.says(5, "NONE, and nothing happens, without these", t -> {
            t.tell(EMPTY).range(0, 0, 15, "request", 1, 1, 1, 1, 1).range(1, 0, 1, "request", 1, 1, 1, 1, 1)
                    .range(2, 0, 29, "request", 1, 1, 1, 1, 1);
            t.range(3, 1, 9999, "request", 1, 1, 1, 1, 1).range(4, 0, 999, "request", 1, 1, 1, 1, 1);
            t.due(0, "request", 1, 1, 1, 1, 1).range(3, 1, 9999, "request", 1, 1, 1, 1, 1);
            t.another().refused(-1, "request", 1, 0, 1, 1, 1);
        });
        s.says(5, "-2: there are 40", t -> {
            fillRequests(t.tell(EMPTY), 0, 40);
            t.refused(-2, "request", 1, 1, 1, 1, 1).due(40, "count", 8).refused(-2, "request", 15, 0, 29, 9999, 999);
            t.refused(-1, "request", 16, 1, 1, 1, 1).refused(-1, "request", 1, 2, 1, 1, 1).refused(-1, "request", 1, 1, 30, 1, 1);
            t.refused(-1, "request", 1, 1, 1, 0, 1).refused(-1, "request", 1, 1, 1, 1, 1000);
            t.due(9, "undo").due(39, "request", 1, 1, 1, 1, 1).due(-2, "request", 1, 1, 1, 1, 1);
        });
        s.says(5, "which: VENDOR and 10 times the KIND", t -> {
            int[] whiches = {0, 9, 10, 19, 20, 29};
            t.tell(EMPTY);
            for (int k = 0; k < whiches.length; k++) {
                t.due(k, "request", 1, 0, whiches[k], 1, 1).due(k % 2 == 0 ? 0 : 9, "asked", k, 2).due(k / 2, "asked", k, 3);
            }
        });
    }

    private static void fillRequests(Trial t, int from, int to) {
        for (int k = from; k < to; k++) {
            t.due(k, "request", 9, 0, 5, 1, k);
        }
    }

    private static void recalling(Sentences s) {
        s.says(6, "A REQUEST is RECALLED on a DAY: 1", t -> {
            t.tell(EMPTY).due(0, "request", 1, 1, 1, 1, 0).due(1, "request", 1, 1, 1, 1, 999).due(2, "request", 1, 1, 1, 1, 5);
            t.due(1, "recall", 0, 0).due(0, "asked", 0, 6).due(1, "recall", 1, 999).due(999, "asked", 1, 6);
            t.due(-2, "asked", 2, 6).due(2, "count", 9).due(1, "recall", 2, 999).due(999, "asked", 2, 6).due(3, "count", 9);
        });
        s.says(6, "NONE, and nothing happens, without these, or if that is ahead of its DAY", t -> {
            t.tell(EMPTY).refused(-1, "recall", 0, 0).due(0, "request", 1, 1, 1, 1, 10).due(1, "request", 1, 1, 1, 1, 20);
            t.range(0, 0, 1, "recall", 0, 20).range(1, 10, 999, "recall", 0, 10).range(1, 20, 999, "recall", 1, 20);
            t.due(1, "recall", 0, 10).due(10, "asked", 0, 6);
        });
        s.says(6, "-2: it is already", t -> {
            t.tell(EMPTY).due(0, "request", 1, 1, 1, 1, 10).due(1, "recall", 0, 20);
            t.refused(-2, "recall", 0, 20).refused(-2, "recall", 0, 19).refused(-2, "recall", 0, 21).refused(-2, "recall", 0, 999)
                    .refused(-2, "recall", 0, 10);
            t.refused(-1, "recall", 0, 9).refused(-1, "recall", 0, 1000).farOut(1, "recall", 0, 10);
        });
        s.says(6, "-3: it is APPROVED on that DAY, or ahead of it", t -> {
            t.tell(TALL).due(0, "request", 1, 1, 0, 101, 5).due(1, "request", 2, 1, 0, 100, 5).due(6, "ends", 0, 1).due(5, "ends", 1, 1);
            t.refused(-3, "recall", 0, 6).refused(-3, "recall", 0, 7).refused(-3, "recall", 0, 999).refused(-3, "recall", 1, 5)
                    .refused(-3, "recall", 1, 6);
            t.refused(-1, "recall", 0, 4).refused(-1, "recall", 0, 1000).refused(-1, "recall", 1, 4).farOut(1, "recall", 1, 5);
            t.due(1, "recall", 0, 5).refused(-2, "recall", 0, 6);
        });
    }

    private static void amending(Sentences s) {
        s.says(7, "A REQUEST is RECALLED on a DAY, and one more is made on it, alike but for the AMOUNT: its number", t -> {
            t.tell(TALL).due(0, "request", 1, 1, 0, 400, 5).due(1, "request", 2, 0, 29, 7, 3);
            t.due(2, "amend", 0, 9999, 5).dueRow("asked", new int[] {0}, 1, 1, 0, 0, 400, 5, 5)
                    .dueRow("asked", new int[] {2}, 1, 1, 0, 0, 9999, 5, -2, 9999, 0);
            t.due(3, "amend", 1, 1, 999).dueRow("asked", new int[] {3}, 2, 0, 9, 2, 1, 999, -2, 1, 0).due(999, "asked", 1, 6);
            t.due(4, "amend", 2, 9998, 6).due(5, "count", 8).due(3, "count", 9).due(5, "count", 11);
            t.due(4, "undo").due(4, "count", 8).due(-2, "asked", 2, 6).due(2, "count", 9);
        });
        s.says(7, "NONE, -2, -3 as recall()", t -> {
            t.tell(EMPTY).refused(-1, "amend", 0, 1, 0).due(0, "request", 1, 1, 1, 1, 10).due(1, "request", 1, 1, 1, 1, 20);
            t.range(0, 0, 1, "amend", 0, 5, 20).range(1, 1, 9999, "amend", 0, 5, 10).range(2, 10, 999, "amend", 0, 5, 10);
            t.due(2, "amend", 0, 5, 30).refused(-2, "amend", 0, 6, 30).refused(-2, "amend", 0, 6, 999).refused(-2, "recall", 0, 30);
            t.refused(-1, "amend", 0, 0, 30).refused(-1, "amend", 0, 10000, 30).refused(-1, "amend", 0, 6, 9).refused(-1, "amend", 0, 6, 1000);
            Trial u = t.another().tell(TALL).due(0, "request", 1, 1, 0, 101, 5);
            u.refused(-3, "amend", 0, 5, 6).refused(-3, "amend", 0, 5, 7).refused(-3, "amend", 0, 5, 999);
            u.refused(-1, "amend", 0, 0, 6).refused(-1, "amend", 0, 10000, 6).refused(-1, "amend", 0, 5, 4).refused(-1, "amend", 0, 5, 1000);
            u.due(1, "amend", 0, 5, 5).refused(-2, "amend", 0, 5, 6);
        });
        s.says(7, "-2 too: there are 40", t -> {
            t.tell(TALL).due(0, "request", 1, 1, 0, 101, 5);
            fillRequests(t, 1, 39);
            t.does(0, 0, "amend", 0, 5, 5).due(39, "request", 9, 0, 5, 1, 39);
            t.refused(-2, "amend", 0, 5, 5).refused(-2, "amend", 0, 5, 6).refused(-3, "recall", 0, 6);
            t.refused(-1, "amend", 0, 0, 5).refused(-1, "amend", 0, 10000, 5).refused(-1, "amend", 0, 5, 4).refused(-1, "amend", 0, 5, 1000)
                    .refused(-1, "amend", 40, 5, 5);
            t.due(9, "undo").due(39, "amend", 0, 5, 5).refused(-2, "amend", 39, 5, 5);
        });
    }

    // ---- entries ----

    private static void holding(Sentences s) {
        s.says(8, "One HOLD more, behind the others: its number", t -> {
            t.tell(EMPTY + ";hold 1 3 0 99").due(1, "hold", 1, 15, 99, 999).dueRow("entry", new int[] {0, 1}, 1, 15, 99, 999);
            t.due(3, "decides", 1, 99, -1, 0).due(15, "decides", 1, 100, -1, 0).due(2, "hold", 0, 0, 0, 0)
                    .dueRow("entry", new int[] {0, 2}, 0, 0, 0, 0);
        });
        s.says(8, "NONE, and nothing happens, without these", t -> {
            t.another().refused(-1, "hold", 0, 0, 0, 0);
            t.tell(EMPTY).range(0, 0, 1, "hold", 1, 2, 5, 10).range(1, 0, 15, "hold", 1, 2, 5, 10);
            t.range(2, 0, 10, "hold", 1, 2, 5, 10).range(3, 5, 999, "hold", 1, 2, 5, 10).range(2, 0, 999, "hold", 1, 2, 0, 999);
        });
        s.says(8, "-2: there are 24", t -> {
            t.tell(EMPTY);
            for (int k = 0; k < 24; k++) {
                t.due(k, "hold", 1, 2, k, k);
            }
            t.refused(-2, "hold", 1, 2, 5, 10).due(24, "count", 1).refused(-1, "hold", 2, 2, 5, 10).refused(-1, "hold", 1, 16, 5, 10);
            t.refused(-1, "hold", 1, 2, 5, 4).refused(-1, "hold", 1, 2, 5, 1000).due(0, "away", 1, 1, 1).due(23, "drop", 0, 0)
                    .due(23, "hold", 1, 2, 5, 10);
        });
    }

    private static void beingAway(Sentences s) {
        s.says(9, "One AWAY more, behind the others: its number", t -> {
            t.due(0, "away", 0, 0, 0).due(1, "away", 15, 999, 999).due(2, "away", 0, 0, 0).due(3, "away", 3, 0, 999);
            t.dueRow("entry", new int[] {1, 1}, 15, 999, 999).dueRow("entry", new int[] {1, 3}, 3, 0, 999);
        });
        s.says(9, "NONE, and nothing happens, without these", t -> {
            t.tell(EMPTY).range(0, 0, 15, "away", 2, 5, 10).range(1, 0, 10, "away", 2, 5, 10).range(2, 5, 999, "away", 2, 5, 10)
                    .range(1, 0, 999, "away", 2, 5, 999);
        });
        s.says(9, "-2: there are 24", t -> {
            for (int k = 0; k < 24; k++) {
                t.due(k, "away", 2, k, k);
            }
            t.refused(-2, "away", 2, 5, 10).due(24, "count", 2).refused(-1, "away", 16, 5, 10).refused(-1, "away", 2, 5, 4)
                    .refused(-1, "away", 2, 5, 1000);
            t.due(0, "stand", 1, 2, 1, 1, 1).due(23, "drop", 1, 23).due(23, "away", 2, 5, 10);
        });
    }

    private static void standing(Sentences s) {
        s.says(10, "One STAND more, behind the others: its number", t -> {
            t.due(0, "stand", 0, 15, 0, 999, 9999).due(1, "stand", 15, 0, 999, 999, 0).due(2, "stand", 0, 15, 0, 999, 9999);
            t.dueRow("entry", new int[] {2, 0}, 0, 15, 0, 999, 9999).dueRow("entry", new int[] {2, 1}, 15, 0, 999, 999, 0);
        });
        s.says(10, "NONE, and nothing happens, without these", t -> {
            t.tell(EMPTY).range(0, 0, 15, "stand", 2, 3, 5, 10, 7).range(1, 0, 15, "stand", 2, 3, 5, 10, 7).range(2, 0, 10, "stand", 2, 3, 5, 10, 7);
            t.range(3, 5, 999, "stand", 2, 3, 5, 10, 7).range(4, 0, 9999, "stand", 2, 3, 5, 10, 7);
            t.refused(-1, "stand", 3, 3, 5, 10, 7).refused(-1, "stand", 0, 0, 5, 10, 7).refused(-1, "stand", 15, 15, 5, 10, 7)
                    .does(0, 4, "stand", 2, 3, 5, 10, 7);
        });
        s.says(10, "-2: there are 24", t -> {
            for (int k = 0; k < 24; k++) {
                t.due(k, "stand", 2, 3, k, k, k);
            }
            t.refused(-2, "stand", 2, 3, 5, 10, 7).due(24, "count", 3).refused(-1, "stand", 2, 2, 5, 10, 7).refused(-1, "stand", 2, 3, 5, 4, 7);
            t.refused(-1, "stand", 2, 3, 5, 10, 10000).due(0, "foe", 1, 1).due(23, "drop", 2, 5).due(23, "stand", 2, 3, 5, 10, 7);
        });
    }

    private static void foes(Sentences s) {
        s.says(11, "One FOE more, behind the others: its number", t -> {
            t.due(0, "foe", 0, 0).due(1, "foe", 15, 9).due(2, "foe", 15, 0).due(3, "foe", 0, 9).dueRow("entry", new int[] {3, 1}, 15, 9);
        });
        s.says(11, "NONE, and nothing happens, without these", t -> {
            t.tell(EMPTY).range(0, 0, 15, "foe", 1, 2).range(1, 0, 9, "foe", 1, 2);
        });
        s.says(11, "-2: there are 16, or that one is", t -> {
            t.due(0, "foe", 3, 4).refused(-2, "foe", 3, 4).does(0, 4, "foe", 3, 4).does(1, 3, "foe", 3, 4).due(1, "foe", 4, 3)
                    .refused(-2, "foe", 3, 4);
            for (int k = 2; k < 16; k++) {
                t.due(k, "foe", k, 9);
            }
            t.refused(-2, "foe", 0, 0).refused(-2, "foe", 3, 4).due(16, "count", 4).refused(-1, "foe", 16, 0).refused(-1, "foe", 0, 10)
                    .farOut(1, "foe", 3, 4);
            t.due(15, "drop", 3, 0).refused(-2, "foe", 15, 9).due(15, "foe", 3, 4).refused(-2, "foe", 0, 0);
            t.another().tell("foe 1 2;foe 1 2").due(2, "count", 4).refused(-2, "foe", 1, 2).due(1, "drop", 3, 0).refused(-2, "foe", 1, 2);
        });
    }

    private static void dropping(Sentences s) {
        s.says(12, "A HOLD (kind 0), an AWAY (1), a STAND (2), a FOE (3) goes; those behind it get a number less: how many are left of its kind", t -> {
            t.tell("post top 1 2 3;hold 0 1 2 3;hold 0 4 5 6;hold 0 7 8 9;away 1 2 3;away 4 5 6;stand 1 2 3 4 5;stand 6 7 8 9 10;foe 1 2;foe 3 4");
            t.due(2, "drop", 0, 1)
                    .dueLetters("post top 1 2 3;hold 0 1 2 3;hold 0 7 8 9;away 1 2 3;away 4 5 6;stand 1 2 3 4 5;stand 6 7 8 9 10;foe 1 2;foe 3 4");
            t.due(1, "drop", 1, 0).due(1, "drop", 2, 1).due(1, "drop", 3, 0);
            t.dueLetters("post top 1 2 3;hold 0 1 2 3;hold 0 7 8 9;away 4 5 6;stand 1 2 3 4 5;foe 3 4");
            t.due(0, "drop", 1, 0).due(0, "drop", 2, 0).due(0, "drop", 3, 0).due(1, "drop", 0, 0).due(0, "drop", 0, 0).dueLetters("post top 1 2 3");
        });
        s.says(12, "how many are left of its kind", t -> {
            for (int k = 0; k < 24; k++) {
                t.due(k, "away", k % 16, k, k);
            }
            t.due(23, "drop", 1, 23).due(22, "entry", 1, 22, 1).due(22, "drop", 1, 0).due(1, "entry", 1, 0, 1).due(22, "entry", 1, 21, 1)
                    .due(-1, "entry", 1, 22, 1);
        });
        s.says(12, "NONE, and nothing happens, without these", t -> {
            for (int kind = 0; kind < 4; kind++) {
                t.refused(-1, "drop", kind, 0);
            }
            t.tell("post top 1 2 3;hold 0 1 2 3;hold 0 4 5 6;away 1 2 3;away 4 5 6;away 4 5 7;stand 1 2 3 4 5;foe 1 2;foe 3 4;foe 5 6;foe 7 8");
            t.range(0, 0, 3, "drop", 0, 0).range(1, 0, 1, "drop", 0, 0).range(1, 0, 2, "drop", 1, 0).range(1, 0, 0, "drop", 2, 0)
                    .range(1, 0, 3, "drop", 3, 0);
            t.due(0, "drop", 2, 0).refused(-1, "drop", 2, 0).refused(-1, "drop", 4, 0).refused(-1, "drop", Trial.HIGH, Trial.HIGH);
        });
    }

    // ---- limits and settings ----

    private static void limits(Sentences s) {
        s.says(13, "The LIMIT of a POST for a KIND is told: what it was", t -> {
            t.tell(EMPTY).due(20, "limit", 0, 2, 9999).due(9999, "post", 0, 3).due(9999, "limit", 0, 2, 0).due(0, "post", 0, 3)
                    .due(0, "limit", 0, 2, 1);
            t.due(10, "limit", 1, 0, 11).dueRow("post", new int[] {0}, -2, 100, 50, 1).dueRow("post", new int[] {1}, 0, 11, 20, 30);
        });
        s.says(13, "NONE, and nothing happens, without these", t -> {
            t.another().refused(-1, "limit", 0, 0, 0);
            t.tell(EMPTY).range(0, 0, 1, "limit", 0, 0, 5).range(1, 0, 2, "limit", 0, 0, 5).range(2, 0, 9999, "limit", 0, 0, 5);
        });
        s.says(13, "-2: it is so", t -> {
            t.tell(EMPTY).refused(-2, "limit", 0, 0, 100).refused(-2, "limit", 1, 2, 30).does(2, 99, "limit", 0, 0, 100)
                    .does(2, 101, "limit", 0, 0, 100);
            t.due(100, "limit", 0, 0, 99).refused(-2, "limit", 0, 0, 99).due(0, "undo").refused(-2, "limit", 0, 0, 100);
            t.refused(-1, "limit", 0, 3, 100).refused(-1, "limit", 2, 0, 100);
        });
    }

    private static void setting(Sentences s) {
        s.says(14, "WINDOW (what 0), PACE (1), WAIT (2) is told: what it was", t -> {
            t.due(0, "set", 0, 99).due(1, "set", 1, 9).due(2, "set", 2, 30).due(99, "count", 5).due(9, "count", 6).due(30, "count", 7);
            t.due(99, "set", 0, 0).due(9, "set", 1, 0).due(30, "set", 2, 0).due(0, "count", 5).due(0, "count", 6).due(0, "count", 7);
        });
        s.says(14, "NONE, and nothing happens, for others", t -> {
            t.tell(EMPTY).range(0, 0, 2, "set", 0, 5).range(1, 0, 99, "set", 0, 5).range(1, 0, 9, "set", 1, 5).range(1, 0, 30, "set", 2, 5);
            t.refused(-1, "set", 3, 0).refused(-1, "set", -1, 0).refused(-1, "set", Trial.LOW, Trial.LOW);
        });
        s.says(14, "-2: it is so", t -> {
            t.refused(-2, "set", 0, 0).refused(-2, "set", 1, 1).refused(-2, "set", 2, 2).due(0, "set", 0, 1).refused(-2, "set", 0, 1);
            t.does(1, 0, "set", 0, 2).due(0, "undo").refused(-2, "set", 0, 0).tell("window 99;pace 9;wait 30");
            t.refused(-2, "set", 0, 99).refused(-2, "set", 1, 9).refused(-2, "set", 2, 30).refused(-1, "set", 0, 100);
        });
    }

    // ---- undone, kept ----

    private static void undoing(Sentences s) {
        s.says(15, "The last ACT is UNDONE: how many more can be", t -> {
            t.tell(TALL + ";away 1 2 3;stand 1 2 3 4 5;foe 1 2").due(0, "request", 1, 1, 2, 400, 5).due(1, "keep", 0);
            t.undone(1, "request", 1, 1, 2, 5, 6).undone(1, "recall", 0, 5).undone(1, "amend", 0, 7, 5).undone(2, "hold", 1, 2, 3, 4);
            t.undone(1, "away", 3, 4, 5).undone(1, "stand", 3, 4, 5, 6, 7).undone(1, "foe", 7, 2).undone(1, "drop", 0, 0).undone(0, "drop", 1, 0);
            t.undone(0, "drop", 2, 0).undone(0, "drop", 3, 0).undone(100, "limit", 1, 0, 9999).undone(0, "set", 0, 9).undone(1, "set", 1, 0)
                    .undone(2, "set", 2, 30);
            t.due(0, "set", 0, 1).due(1, "set", 0, 2).due(2, "undo").due(2, "count", 11).due(1, "count", 5).due(1, "undo").due(1, "count", 11)
                    .due(0, "count", 5);
        });
        s.says(15, "NONE, and nothing happens, if none can", t -> {
            t.refused(-1, "undo").due(0, "set", 0, 1).due(0, "undo").refused(-1, "undo").due(0, "set", 0, 1);
            t.tell(EMPTY).refused(-1, "undo").due(0, "request", 1, 1, 1, 1, 1).due(1, "keep", 0).due(1, "back", 0).refused(-1, "undo")
                    .due(1, "count", 8);
            for (int k = 1; k <= 11; k++) {
                t.due(k - 1, "set", 0, k);
            }
            for (int k = 9; k >= 0; k--) {
                t.due(k, "undo");
            }
            t.refused(-1, "undo").due(1, "count", 5);
        });
    }

    private static void keeping(Sentences s) {
        s.says(16, "All is KEPT on a SHELF: how many REQUESTS", t -> {
            t.tell(FULL).due(0, "keep", 0).due(1, "count", 13).due(0, "request", 1, 0, 0, 1, 0).due(1, "keep", 1).due(3, "count", 13);
            t.due(1, "count", 11).due(0, "undo").due(1, "back", 1).due(0, "back", 0).due(1, "back", 1);
            fillRequests(t, 1, 40);
            t.due(40, "keep", 0).due(1, "back", 1).due(40, "back", 0).due(40, "count", 8);
        });
        s.says(16, "NONE, and nothing happens, without that SHELF", t -> {
            t.range(0, 0, 1, "keep", 0).tell(FULL).range(0, 0, 1, "keep", 0).due(0, "count", 13);
        });
    }

    private static void goingBack(Sentences s) {
        s.says(17, "All is as it was KEPT (nothing can be UNDONE then): how many REQUESTS", t -> {
            t.tell(FULL).due(0, "request", 1, 0, 0, 1, 0).due(1, "recall", 0, 8).due(1, "request", 1, 0, 0, 2, 9).due(2, "keep", 1);
            t.due(0, "drop", 0, 0).due(0, "drop", 1, 0).due(0, "drop", 2, 0).due(0, "drop", 3, 0).due(1, "limit", 0, 0, 9).due(4, "set", 0, 9);
            t.due(5, "set", 1, 9).due(6, "set", 2, 9).due(2, "request", 2, 0, 0, 3, 9).due(3, "amend", 1, 4, 9).feed("foe 1 2");
            t.due(2, "back", 1).dueLetters(FULL).due(7, "count", 12).dueRow("asked", new int[] {0}, 1, 0, 0, 0, 1, 0, 8)
                    .dueRow("asked", new int[] {1}, 1, 0, 0, 0, 2, 9, -2);
            t.due(0, "count", 11).refused(-1, "undo").due(2, "count", 13).due(2, "request", 2, 0, 0, 3, 9).due(2, "back", 1).due(2, "count", 8);
            t.due(0, "tell").dueLetters("foe 1 2").due(2, "back", 1).dueLetters(FULL);
        });
        s.says(17, "NONE, and nothing happens, without that SHELF", t -> {
            t.tell(FULL).due(0, "request", 1, 0, 0, 1, 0).due(1, "keep", 0).due(1, "keep", 1).due(1, "request", 1, 0, 0, 1, 0)
                    .range(0, 0, 1, "back", 0);
        });
        s.says(17, "-2: nothing is KEPT", t -> {
            t.refused(-2, "back", 0).refused(-2, "back", 1).refused(-1, "back", 2).refused(-1, "back", -1).farOut(0, "back", 0);
            t.due(0, "set", 0, 1).due(0, "keep", 0).refused(-2, "back", 1).does(0, 0, "back", 0).another().due(0, "keep", 1).refused(-2, "back", 0)
                    .due(0, "back", 1);
        });
    }
}
