/** Who decides, and the way up: what the terms say of them, and promises 22 to 25. */
final class EdgesOfRoutes {
    private static final int TERMS = Sentences.TERMS;
    private static final String ONE = "post top 100 50 20;hold 0 1 0 999";
    private static final String TALL = "post top 500 0 0;post 0 100 50 20;hold 1 3 0 999;hold 0 7 0 999";

    private EdgesOfRoutes() {}

    static void all(Sentences s) {
        askingTheHolder(s);
        standingIn(s);
        reasons(s);
        waiting(s);
        climbing(s);
        ending(s);
        steps(s);
        chains(s);
        ends(s);
        decides(s);
    }

    // ---- who decides ----

    private static void askingTheHolder(Sentences s) {
        s.says(TERMS, "Who DECIDES at a POST on a DAY on a request by a PERSON, for a VENDOR, of a KIND: the HOLDER (the first HOLD of that POST and DAY) is asked, with the POST's LIMIT of that KIND", t -> {
            t.tell("post top 10 20 30;post 0 1 2 3;hold 1 9 0 999;hold 0 1 5 9;hold 0 2 0 20;away 1 7 7").due(2, "decides", 0, 4, -1, 0)
                    .due(1, "decides", 0, 5, -1, 0);
            t.due(1, "decides", 0, 9, -1, 0).due(2, "decides", 0, 10, -1, 0).due(2, "decides", 0, 20, -1, 0).due(-4, "decides", 0, 21, -1, 0)
                    .due(-5, "decides", 0, 7, -1, 0);
            t.due(9, "decides", 1, 21, -1, 0).dueRow("power", new int[] {2, 0}, 10, 20, 30).dueRow("power", new int[] {9, 0}, 1, 2, 3);
            t.due(2, "drop", 0, 1).due(2, "decides", 0, 7, -1, 0);
        });
        s.says(TERMS, "Is one asked: if it is the PERSON who made the request: it does not, nor anyone who stands in for it", t -> {
            t.tell(ONE + ";stand 1 2 0 999 90;stand 2 3 0 999 80;away 2 10 19").due(-6, "decides", 0, 5, 1, 0).due(1, "decides", 0, 5, 0, 0)
                    .due(1, "decides", 0, 5, 2, 0).due(1, "decides", 0, 5, -1, 0);
            t.due(1, "away", 1, 5, 15).due(-6, "decides", 0, 5, 1, 0).due(2, "decides", 0, 5, 0, 0).due(-5, "decides", 0, 5, 2, 0)
                    .due(3, "decides", 0, 10, 0, 0).due(-5, "decides", 0, 10, 2, 0);
            t.due(2, "decides", 0, 5, 3, 0).due(-5, "decides", 0, 10, 3, 0).due(2, "stand", 1, 4, 0, 999, 70).due(4, "decides", 0, 5, 2, 0)
                    .due(4, "decides", 0, 10, 2, 0).due(4, "decides", 0, 10, 3, 0);
            t.due(-6, "decides", 0, 5, 1, 0).due(3, "stand", 4, 3, 0, 999, 60).due(2, "away", 4, 5, 15).due(3, "decides", 0, 5, 2, 0);
        });
        s.says(TERMS, "if it is not AWAY on that DAY and no FOE of the VENDOR: it DECIDES, with the limit with which it was asked", t -> {
            t.tell(ONE + ";away 1 5 7;foe 1 3;stand 1 2 0 999 60").due(1, "decides", 0, 4, -1, 0).due(2, "decides", 0, 5, -1, 0)
                    .due(2, "decides", 0, 7, -1, 0).due(1, "decides", 0, 8, -1, 0);
            t.due(1, "decides", 0, 4, -1, 2).due(2, "decides", 0, 4, -1, 3).due(1, "decides", 0, 4, -1, 4).due(2, "decides", 0, 4, -1, 13)
                    .due(2, "decides", 0, 4, -1, 23).due(1, "decides", 0, 4, -1, 10);
            t.due(100, "power", 1, 4, 0).due(-2, "power", 1, 5, 0).due(60, "power", 2, 5, 0).due(-2, "power", 2, 4, 0);
        });
    }

    private static void standingIn(Sentences s) {
        s.says(TERMS, "else those who stand in for it (STANDS it gave, of that DAY, in order) are asked, one by one, till one DECIDES", t -> {
            t.tell(ONE + ";away 1 0 999;stand 5 6 0 999 9;stand 1 2 5 7 9;stand 1 3 0 999 9;stand 2 4 0 999 9;stand 1 7 0 999 9");
            t.due(3, "decides", 0, 4, -1, 0).due(2, "decides", 0, 5, -1, 0).due(2, "decides", 0, 7, -1, 0).due(3, "decides", 0, 8, -1, 0);
            t.due(1, "away", 2, 0, 999).due(4, "decides", 0, 5, -1, 0).due(3, "decides", 0, 4, -1, 0).due(2, "away", 4, 0, 999)
                    .due(3, "decides", 0, 5, -1, 0);
            t.due(3, "away", 3, 0, 999).due(7, "decides", 0, 5, -1, 0).due(4, "away", 7, 0, 999).due(-5, "decides", 0, 5, -1, 0).due(4, "drop", 1, 1)
                    .due(2, "decides", 0, 5, -1, 0);
        });
        s.says(TERMS, "those who stand in for it (STANDS it gave, of that DAY, in order) are asked", t -> {
            t.tell(ONE + ";away 1 0 999");
            for (int taker = 15; taker >= 0; taker -= taker == 2 ? 2 : 1) {
                t.due(0, "stand", 1, taker, 0, 999, 70 + taker).due(taker, "decides", 0, 5, -1, 0).due(70 + taker, "power", taker, 5, 0)
                        .due(0, "drop", 2, 0);
            }
        });
        s.says(TERMS, "each with the lesser of that limit and the CAP", t -> {
            t.tell(ONE + ";away 1 0 999;away 3 0 999;away 4 0 999;stand 1 2 0 0 99;stand 1 2 1 1 100;stand 1 2 2 2 101;stand 1 2 3 3 0;stand 1 3 4 9 50;stand 3 2 4 4 49;stand 3 2 5 5 51");
            t.due(99, "power", 2, 0, 0).due(100, "power", 2, 1, 0).due(100, "power", 2, 2, 0).due(0, "power", 2, 3, 0).due(49, "power", 2, 4, 0)
                    .due(50, "power", 2, 5, 0);
            t.due(7, "stand", 3, 4, 6, 6, 10).due(8, "stand", 3, 2, 6, 6, 9999).due(50, "power", 2, 6, 0).due(50, "power", 2, 1, 1)
                    .due(20, "power", 2, 0, 2);
            t.due(9, "stand", 3, 4, 7, 7, 10).due(10, "stand", 1, 2, 7, 7, 9999).due(100, "power", 2, 7, 0);
        });
        s.says(TERMS, "one who was asked already is passed over", t -> {
            t.tell(ONE + ";stand 1 2 0 999 9;stand 2 1 0 999 9;away 1 0 999;away 2 0 999").due(-5, "decides", 0, 5, -1, 0)
                    .due(2, "stand", 2, 3, 0, 999, 8).due(3, "decides", 0, 5, -1, 0);
            t.due(2, "away", 3, 0, 999).due(3, "stand", 3, 1, 0, 999, 9).due(4, "stand", 3, 2, 0, 999, 9).due(-5, "decides", 0, 5, -1, 0)
                    .due(5, "stand", 3, 4, 0, 999, 7).due(4, "decides", 0, 5, -1, 0);
            t.due(0, "request", 9, 0, 0, 7, 5).due(4, "step", 0, 0, 2).due(7, "step", 0, 0, 3).dueRow("chain", new int[] {0, 0}, 1, 2, 3, 4, -2);
        });
        s.says(TERMS, "one by one, till one DECIDES", t -> {
            StringBuilder ring = new StringBuilder("post top 99 0 0;hold 0 0 0 9");
            for (int person = 0; person < 15; person++) {
                ring.append(";away " + person + " 0 9");
            }
            t.tell(ring.toString());
            for (int person = 0; person < 16; person++) {
                t.due(person, "stand", person, (person + 1) % 16, 0, 9, 9999 - person);
            }
            t.due(15, "decides", 0, 0, -1, 0).due(99, "power", 15, 0, 0).due(0, "request", 15, 0, 0, 1, 0).due(-5, "decides", 0, 0, 15, 0)
                    .due(2, "ends", 0, 0);
            t.due(15, "away", 15, 0, 9).due(-5, "decides", 0, 0, -1, 0).due(65535, "ring", 0).due(16, "tangle", 0);
        });
    }

    private static void reasons(Sentences s) {
        s.says(TERMS, "If nobody does, REASON: 2 there is no HOLDER; of the HOLDER, the first that holds: 4 the request is its own; 3 it is AWAY; 5 it is a FOE.", t -> {
            t.tell("post top 9 9 9;hold 0 1 5 9;away 1 6 6;foe 1 3;away 1 8 8").due(-4, "decides", 0, 4, -1, 0).due(-4, "decides", 0, 10, 1, 3)
                    .due(-4, "decides", 0, 4, 1, 3);
            t.due(1, "decides", 0, 5, -1, 0).due(-7, "decides", 0, 5, -1, 3).due(-6, "decides", 0, 5, 1, 0).due(-6, "decides", 0, 5, 1, 3);
            t.due(-5, "decides", 0, 6, -1, 0).due(-5, "decides", 0, 6, -1, 3).due(-6, "decides", 0, 6, 1, 0).due(-6, "decides", 0, 6, 1, 3)
                    .due(-5, "decides", 0, 6, 0, 3);
            t.due(0, "stand", 1, 2, 0, 9, 9).due(2, "away", 2, 0, 9).due(-7, "decides", 0, 5, -1, 3).due(1, "foe", 2, 0)
                    .due(-5, "decides", 0, 6, 2, 0).due(-7, "decides", 0, 5, 2, 3);
        });
    }

    // ---- the way up ----

    private static void waiting(Sentences s) {
        s.says(TERMS, "ROUTE of a REQUEST: it comes to its POST on its DAY", t -> {
            t.tell(TALL).due(0, "request", 1, 1, 0, 5, 0).due(1, "request", 1, 0, 0, 5, 999).due(1, "step", 0, 0, 0).due(0, "step", 0, 0, 1)
                    .due(0, "step", 1, 0, 0).due(999, "step", 1, 0, 1);
        });
        s.says(TERMS, "At a POST to which it comes on a DAY d: the first DAY from d to d + WAIT (999 at most) on which someone DECIDES: a STEP on that DAY", t -> {
            t.tell("post top 9 9 9;hold 0 1 12 12;hold 0 1 999 999").due(0, "request", 0, 0, 0, 1, 10).due(1, "request", 0, 0, 0, 1, 9)
                    .due(2, "request", 0, 0, 0, 1, 12).due(3, "request", 0, 0, 0, 1, 13);
            t.dueRow("step", new int[] {0, 0}, 0, 12, 1, 9, 0, 0).dueRow("step", new int[] {1, 0}, 0, 11, -2, -2, 2, -2).due(12, "step", 2, 0, 1)
                    .dueRow("step", new int[] {3, 0}, 0, 15, -2, -2, 2, -2);
            t.due(2, "set", 2, 30).due(12, "step", 1, 0, 1).due(4, "request", 2, 0, 0, 1, 969).due(999, "step", 4, 0, 1).due(1, "step", 4, 0, 2)
                    .due(5, "request", 3, 0, 0, 1, 968).due(998, "step", 5, 0, 1).due(-2, "step", 5, 0, 2);
            t.due(30, "set", 2, 0).due(10, "step", 0, 0, 1).due(-2, "step", 0, 0, 2).due(12, "step", 2, 0, 1).due(1, "step", 2, 0, 2);
            t = t.another().tell("post top 9 9 9;hold 0 1 0 999;away 1 990 999;wait 30").due(0, "request", 0, 0, 0, 1, 990)
                    .due(1, "request", 0, 0, 0, 1, 999);
            t.due(999, "step", 0, 0, 1).due(-2, "step", 0, 0, 2).due(999, "step", 1, 0, 1).due(0, "stand", 1, 2, 999, 999, 9).due(2, "step", 0, 0, 2)
                    .due(2, "step", 1, 0, 2).due(0, "foe", 2, 0).due(-2, "step", 1, 0, 2);
            t = t.another().tell("post top 9 9 9;hold 0 1 0 999;away 1 10 11;stand 1 2 11 20 8").due(0, "request", 0, 0, 0, 1, 10)
                    .due(11, "step", 0, 0, 1).due(2, "step", 0, 0, 2);
            t.due(0, "drop", 2, 0).due(12, "step", 0, 0, 1).due(1, "step", 0, 0, 2).due(2, "set", 2, 1).due(11, "step", 0, 0, 1)
                    .due(-2, "step", 0, 0, 2);
        });
        s.says(TERMS, "with a limit not below WHOLE: 0 APPROVED, the ROUTE ends; else 1 ENDORSED", t -> {
            t.tell(TALL).due(0, "request", 1, 1, 0, 100, 0).due(1, "request", 2, 1, 0, 101, 0).due(2, "request", 4, 1, 0, 500, 0)
                    .due(3, "request", 5, 1, 0, 501, 0);
            t.due(0, "step", 0, 0, 4).due(1, "step", 0, -1, 0).due(1, "step", 1, 0, 4).due(0, "step", 1, 1, 4).due(2, "step", 1, -1, 0)
                    .due(0, "step", 2, 1, 4).due(1, "step", 3, 1, 4).due(2, "step", 3, -1, 0);
            t.due(4, "request", 1, 1, 0, 1, 0).due(1, "step", 4, 0, 4).due(0, "step", 4, 1, 4).due(101, "asked", 4, 7).due(100, "limit", 1, 0, 9999)
                    .due(1, "step", 3, -1, 0).due(500, "limit", 0, 0, 0);
            t.due(9999, "limit", 1, 0, 0).due(1, "step", 0, 0, 4).due(0, "step", 0, 0, 3).due(1, "step", 0, 1, 4);
        });
        s.says(TERMS, "If nobody does on these: a STEP on the last of these DAYS, of nobody, with the REASON of DAY d.", t -> {
            t.tell("post top 9 9 9;hold 0 1 0 20;away 1 19 22;foe 1 3").due(0, "request", 0, 0, 0, 1, 20).due(1, "request", 0, 0, 0, 1, 21)
                    .due(2, "request", 0, 0, 3, 1, 18).due(3, "request", 1, 0, 3, 1, 19).due(4, "request", 0, 0, 3, 1, 19);
            t.dueRow("step", new int[] {0, 0}, 0, 22, -2, -2, 3, -2).dueRow("step", new int[] {1, 0}, 0, 23, -2, -2, 2, -2)
                    .dueRow("step", new int[] {2, 0}, 0, 20, -2, -2, 5, -2);
            t.dueRow("step", new int[] {3, 0}, 0, 21, -2, -2, 4, -2).dueRow("step", new int[] {4, 0}, 0, 21, -2, -2, 3, -2).due(2, "set", 2, 0)
                    .due(20, "step", 0, 0, 1).due(3, "step", 0, 0, 4);
            t.due(1, "hold", 0, 1, 22, 30).due(2, "step", 1, 0, 4).due(21, "step", 1, 0, 1);
        });
    }

    private static void climbing(Sentences s) {
        s.says(TERMS, "Then it comes to the UPPER POST, PACE DAYS behind that STEP's", t -> {
            t.tell(TALL + ";pace 9;away 3 10 11").due(0, "request", 1, 1, 0, 101, 5).due(14, "step", 0, 1, 1).due(9, "set", 1, 0)
                    .due(5, "step", 0, 1, 1).due(1, "request", 1, 1, 1, 101, 10).due(12, "step", 1, 0, 1).due(12, "step", 1, 1, 1);
            t.due(0, "set", 1, 1).due(13, "step", 1, 1, 1).due(2, "set", 2, 1).due(11, "step", 1, 0, 1).due(-2, "step", 1, 0, 2)
                    .due(12, "step", 1, 1, 1).due(0, "step", 1, 1, 0);
        });
        s.says(TERMS, "if there is none, or that DAY is above 999, the ROUTE ends: STUCK", t -> {
            t.tell(TALL).due(0, "request", 1, 1, 0, 101, 998).due(1, "request", 1, 1, 0, 102, 999).due(2, "request", 2, 1, 0, 501, 5)
                    .due(3, "request", 2, 1, 1, 101, 990).due(4, "request", 2, 1, 2, 101, 991);
            t.dueRow("ends", new int[] {0}, 1, 999, 7, 0).dueRow("ends", new int[] {1}, 2, 999, -2, 1).due(1, "step", 1, -1, 0)
                    .dueRow("ends", new int[] {2}, 2, 6, -2, 0).due(2, "step", 2, -1, 0);
            t.due(1, "set", 1, 9).dueRow("ends", new int[] {3}, 1, 999, 7, 0).dueRow("ends", new int[] {4}, 2, 991, -2, 1)
                    .dueRow("ends", new int[] {0}, 2, 998, -2, 1);
            t.due(9, "set", 1, 0).dueRow("ends", new int[] {1}, 1, 999, 7, 0).due(2, "step", 1, -1, 0).due(1, "ends", 4, 0);
        });
        s.says(TERMS, "A ROUTE is as HOLDS, AWAYS, STANDS, FOES, LIMITS, JOINED ones are now.", t -> {
            t.tell(TALL + ";window 9").due(0, "request", 1, 1, 0, 60, 5).due(1, "request", 1, 1, 0, 60, 6).due(3, "ends", 0, 2).due(7, "ends", 1, 2)
                    .due(0, "away", 3, 5, 5).due(6, "ends", 0, 1);
            t.due(0, "stand", 3, 4, 0, 999, 60).due(4, "ends", 0, 2).due(0, "foe", 4, 0).due(6, "ends", 0, 1).due(1, "drop", 0, 0)
                    .due(7, "ends", 0, 2).due(8, "ends", 0, 1).due(5, "undo").due(100, "limit", 1, 0, 120).due(3, "ends", 1, 2);
            t.due(5, "undo").due(7, "ends", 1, 2).due(9, "set", 0, 0).due(3, "ends", 1, 2);
        });
    }

    private static void ending(Sentences s) {
        s.says(TERMS, "ENDS: 3 RECALLED, if it is, on that DAY; else 1 APPROVED on a DAY by a PERSON, or 2 STUCK (on its last STEP's DAY).", t -> {
            t.tell(TALL).due(0, "request", 1, 1, 0, 101, 5).due(1, "request", 2, 1, 0, 501, 5).dueRow("ends", new int[] {0}, 1, 6, 7, 0)
                    .dueRow("ends", new int[] {1}, 2, 6, -2, 0);
            t.due(1, "recall", 0, 5).due(1, "recall", 1, 999).dueRow("ends", new int[] {0}, 3, 5, -2, 0).dueRow("ends", new int[] {1}, 3, 999, -2, 0)
                    .due(100, "limit", 1, 0, 9999).due(3, "ends", 1, 0).due(999, "ends", 1, 1);
        });
        s.says(TERMS, "(Its ROUTE is as it were without that.)", t -> {
            t.tell(TALL).due(0, "request", 1, 1, 0, 101, 5).due(1, "recall", 0, 5).due(2, "step", 0, -1, 0)
                    .dueRow("step", new int[] {0, 0}, 1, 5, 3, 100, 1, 0).dueRow("step", new int[] {0, 1}, 0, 6, 7, 500, 0, 0);
            t.due(7, "chain", 0, 1, 0).due(1, "without", 0, 0, 0).due(1, "instead", 0, 1, 0).due(500, "most", 0, 1).due(128, "could", 0)
                    .due(0, "split", 0).due(5, "soonest", 0, 5, 5, 0);
        });
    }

    // ---- steps ----

    /** Twelve posts, one above the other; at each the holder is away, and a line of stand-ins has shrinking caps. */
    private static String tower() {
        StringBuilder text = new StringBuilder("post top 9999 0 0");
        for (int post = 1; post < 12; post++) {
            text.append(";post " + (post - 1) + " " + (12 - post) + " 0 0");
        }
        return text.toString();
    }

    private static void steps(Sentences s) {
        s.says(22, "Of the k-th STEP of a REQUEST's ROUTE what 0: POST, 1: DAY, 2: the PERSON (-2: nobody), 3: its limit (-2), 4: 0 APPROVED, 1 ENDORSED, 2 to 5 the REASON", t -> {
            t.tell("post top 50 0 0;post 0 40 0 0;post 1 30 0 0;post 2 20 0 0;post 3 0 0 0;hold 4 0 0 99;hold 3 1 0 99;hold 2 2 0 99;hold 1 3 0 99;away 1 0 99;foe 3 5;wait 0");
            t.due(0, "request", 2, 4, 5, 50, 10).due(4, "hold", 0, 4, 0, 13).dueRow("step", new int[] {0, 0}, 4, 10, 0, 0, 1, 0)
                    .dueRow("step", new int[] {0, 1}, 3, 11, -2, -2, 3, -2);
            t.dueRow("step", new int[] {0, 2}, 2, 12, -2, -2, 4, -2).dueRow("step", new int[] {0, 3}, 1, 13, -2, -2, 5, -2)
                    .dueRow("step", new int[] {0, 4}, 0, 14, -2, -2, 2, -2);
            t.due(5, "step", 0, -1, 0).due(4, "drop", 0, 4).due(4, "hold", 0, 15, 14, 14).dueRow("step", new int[] {0, 4}, 0, 14, 15, 50, 0, 0);
        });
        s.says(22, "5: how many stood in for one another till it (0: the HOLDER; -2: nobody)", t -> {
            t.tell(TALL + ";away 3 0 9;away 4 0 9;away 6 0 9;stand 3 4 0 9 99;stand 3 5 0 9 80;stand 4 6 0 9 70").due(0, "request", 1, 1, 0, 81, 5);
            t.dueRow("step", new int[] {0, 0}, 1, 5, 5, 80, 1, 1).dueRow("step", new int[] {0, 1}, 0, 6, 7, 500, 0, 0).due(2, "drop", 1, 2)
                    .dueRow("step", new int[] {0, 0}, 1, 5, 6, 70, 1, 2);
            t.due(1, "drop", 1, 0).due(0, "step", 0, 0, 5).due(1, "drop", 0, 0).due(-2, "step", 0, 0, 5).due(0, "step", 0, 1, 5);
        });
        s.says(22, "k NONE, what 0: how many STEPS", t -> {
            t.tell(tower()).due(0, "request", 1, 11, 0, 1, 0).due(1, "request", 1, 0, 0, 1, 0).due(2, "request", 1, 6, 0, 1, 0)
                    .due(12, "step", 0, -1, 0).due(1, "step", 1, -1, 0).due(7, "step", 2, -1, 0);
            t.due(0, "hold", 11, 2, 0, 999).due(1, "step", 0, -1, 0).due(7, "step", 2, -1, 0);
        });
        s.says(22, "NONE without these", t -> {
            t.due(-1, "step", 0, 0, 0).due(-1, "step", 0, -1, 0).tell(tower()).due(-1, "step", 0, -1, 0).due(0, "request", 1, 11, 0, 1, 0)
                    .due(1, "request", 1, 10, 0, 1, 0);
            t.range(0, 0, 1, "step", 0, 0, 0).range(0, 0, 1, "step", 0, -1, 0).range(1, -1, 11, "step", 0, 0, 0).range(1, 0, 11, "step", 0, 0, 1)
                    .range(1, -1, 10, "step", 1, 0, 0);
            t.range(2, 0, 5, "step", 0, 0, 0).range(2, 0, 5, "step", 0, 11, 0).range(2, 0, 0, "step", 0, -1, 0).due(-1, "step", 0, -1, 1)
                    .due(-1, "step", 0, -1, 5).due(-1, "step", 0, -2, 0);
        });
    }

    private static void chains(Sentences s) {
        StringBuilder line = new StringBuilder("post top 500 0 0;post 0 100 0 0;hold 1 15 0 9;wait 0");
        for (int person = 15; person > 1; person--) {
            line.append(";away " + person + " 0 9");
        }
        s.says(23, "The i-th of those who stood in for one another at the k-th STEP of a REQUEST (0 the HOLDER, the last the one who DECIDES)", t -> {
            standInLine(t.tell(line.toString())).due(0, "request", 0, 1, 0, 9, 0).due(14, "step", 0, 0, 5).due(1, "step", 0, 0, 2);
            for (int i = 0; i < 15; i++) {
                t.due(15 - i, "chain", 0, 0, i);
            }
            t.due(-2, "chain", 0, 0, 15);
        });
        s.says(23, "-2: there is none", t -> {
            standInLine(t.tell(line.toString())).due(0, "request", 0, 1, 0, 101, 0).due(1, "chain", 0, 0, 14).due(-2, "chain", 0, 0, 15)
                    .due(-2, "chain", 0, 0, 16).due(-2, "chain", 0, 0, Trial.HIGH);
            t.due(-2, "step", 0, 1, 2).due(-2, "chain", 0, 1, 0).due(-2, "chain", 0, 1, 1).due(-2, "chain", 0, 1, Trial.HIGH)
                    .due(1, "hold", 0, 1, 0, 9).due(1, "chain", 0, 1, 0).due(-2, "chain", 0, 1, 1);
        });
        s.says(23, "NONE without that STEP, for i below 0", t -> {
            standInLine(t.tell(line.toString())).due(-1, "chain", 0, 0, 0).due(0, "request", 0, 1, 0, 101, 0).range(0, 0, 0, "chain", 0, 0, 0)
                    .range(1, 0, 1, "chain", 0, 0, 0);
            t.due(-1, "chain", 0, 0, -1).due(-1, "chain", 0, 0, Trial.LOW).due(-1, "chain", 0, 1, -1).due(-1, "chain", 0, 2, 0)
                    .due(-1, "chain", 0, 2, 15).due(-1, "chain", 0, -1, 0);
            t.due(-1, "chain", 1, 0, 0).due(-1, "chain", 0, Trial.HIGH, Trial.HIGH).due(-1, "chain", 0, Trial.LOW, 0);
        });
    }

    private static Trial standInLine(Trial t) {
        for (int person = 15; person > 1; person--) {
            t.due(15 - person, "stand", person, person - 1, 0, 9, 500);
        }
        return t;
    }

    private static void ends(Sentences s) {
        s.says(24, "How a REQUEST ENDS, what 0: 1, 2, 3, 1: the DAY, 2: the PERSON (-2: none), 3: the POST of its last STEP", t -> {
            t.tell(TALL + ";away 7 6 6;stand 7 9 6 6 9999").due(0, "request", 1, 1, 0, 101, 5).due(1, "request", 2, 1, 0, 501, 5)
                    .due(2, "request", 4, 1, 0, 1, 0).due(3, "request", 5, 1, 10, 51, 0);
            t.dueRow("ends", new int[] {0}, 1, 6, 9, 0).dueRow("ends", new int[] {1}, 2, 6, -2, 0).dueRow("ends", new int[] {2}, 1, 0, 3, 1)
                    .dueRow("ends", new int[] {3}, 2, 1, -2, 0);
            t.due(1, "recall", 3, 0).dueRow("ends", new int[] {3}, 3, 0, -2, 0).due(0, "drop", 1, 0).dueRow("ends", new int[] {0}, 1, 6, 7, 0);
        });
        s.says(24, "NONE without these", t -> {
            t.due(-1, "ends", 0, 0).tell(TALL).due(-1, "ends", 0, 0).due(0, "request", 1, 1, 0, 101, 5).due(1, "request", 2, 1, 0, 501, 5)
                    .range(0, 0, 1, "ends", 0, 0).range(1, 0, 3, "ends", 0, 0).range(1, 0, 3, "ends", 1, 0);
            t.due(1, "recall", 1, 5).range(1, 0, 3, "ends", 1, 0).due(-1, "ends", 2, 4);
        });
    }

    private static void decides(Sentences s) {
        s.says(25, "by a PERSON (NONE: by none of these)", t -> {
            t.tell(ONE + ";hold 0 15 0 999").due(1, "decides", 0, 0, -1, 0).due(-6, "decides", 0, 0, 1, 0).due(1, "decides", 0, 0, 0, 0)
                    .due(1, "decides", 0, 0, 15, 0).due(-1, "decides", 0, 0, -2, 0);
            t.range(2, -1, 15, "decides", 0, 0, 0, 0);
        });
        s.says(25, "for a VENDOR of a KIND (which: VENDOR and 10 times the KIND): the PERSON", t -> {
            t.tell("post top 1 1 1;hold 0 0 0 9;hold 0 15 999 999;foe 0 9").due(0, "decides", 0, 0, -1, 0).due(0, "decides", 0, 0, -1, 28)
                    .due(-7, "decides", 0, 0, -1, 29).due(-7, "decides", 0, 0, -1, 9).due(0, "decides", 0, 0, -1, 10);
            t.due(15, "decides", 0, 999, -1, 29).due(-7, "decides", 0, 0, -1, 19).due(0, "decides", 0, 0, -1, 20);
        });
        s.says(25, "-2 less the REASON: nobody", t -> {
            t.tell("post top 1 1 1;hold 0 0 5 9;away 0 6 6;foe 0 9").due(-4, "decides", 0, 4, -1, 0).due(-4, "decides", 0, 10, -1, 0)
                    .due(-5, "decides", 0, 6, -1, 0).due(-6, "decides", 0, 5, 0, 0).due(-7, "decides", 0, 5, -1, 9);
        });
        s.says(25, "NONE without these", t -> {
            t.due(-1, "decides", 0, 0, -1, 0).tell(TALL).range(0, 0, 1, "decides", 0, 0, -1, 0).range(1, 0, 999, "decides", 0, 0, -1, 0)
                    .range(2, -1, 15, "decides", 0, 0, -1, 0).range(3, 0, 29, "decides", 0, 0, -1, 0);
            t.due(1, "drop", 0, 0).due(-4, "decides", 1, 0, -1, 0).due(-1, "decides", 2, 0, -1, 0).due(-1, "decides", 1, 1000, -1, 0)
                    .due(-1, "decides", 1, 0, 16, 0).due(-1, "decides", 1, 0, -1, 30).due(-1, "decides", 1, 0, -1, -1);
        });
    }
}
