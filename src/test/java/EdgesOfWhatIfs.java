/** What would be if: promises 28 to 31, 38 to 40 and 42. */
final class EdgesOfWhatIfs {
    private static final String TALL = "post top 500 0 0;post 0 100 50 20;hold 1 3 0 999;hold 0 7 0 999";

    private EdgesOfWhatIfs() {}

    static void all(Sentences s) {
        splits(s);
        without(s);
        cures(s);
        most(s);
        soonest(s);
        instead(s);
        pillars(s);
        dodges(s);
        questionsChangeNothing(s);
        questionsStandAlone(s);
    }

    /** Twelve posts, one above the other; at the highest alone someone decides, up to 5. */
    private static Trial tower(Trial t) {
        StringBuilder text = new StringBuilder("post top 5 0 0");
        for (int post = 1; post < 12; post++) {
            text.append(";post " + (post - 1) + " 0 0 0");
        }
        return t.tell(text + ";hold 0 1 0 999");
    }

    private static void splits(Sentences s) {
        s.says(28, "1 if a REQUEST (RECALLED or not) would be APPROVED by its AMOUNT alone, and by its WHOLE is not, or behind more STEPS; else 0", t -> {
            t.tell(TALL + ";window 9").due(0, "request", 1, 1, 0, 60, 0).due(1, "request", 1, 1, 0, 40, 9).due(2, "request", 1, 1, 0, 1, 9)
                    .due(3, "request", 1, 1, 0, 399, 9).due(4, "request", 1, 1, 0, 1, 9);
            t.due(0, "split", 0).due(0, "split", 1).due(1, "split", 2).due(0, "split", 3).due(1, "ends", 3, 0).due(1, "split", 4).due(2, "ends", 4, 0)
                    .due(5, "request", 1, 1, 0, 500, 9).due(1, "split", 5).due(6, "request", 1, 1, 0, 501, 9).due(0, "split", 6);
            t.due(1, "recall", 4, 9).due(1, "split", 4).due(1, "recall", 5, 9).due(1, "split", 5).due(100, "limit", 1, 0, 99).due(1, "split", 2)
                    .due(1, "split", 1).due(0, "split", 0);
        });
        s.says(28, "and by its WHOLE is not, or behind more STEPS; else 0", t -> {
            t.tell(TALL + ";post top 9 0 0;hold 2 5 0 999;window 9").due(0, "request", 1, 1, 0, 500, 0).due(1, "request", 2, 2, 0, 460, 0)
                    .due(2, "request", 2, 2, 0, 50, 0).due(2, "step", 0, -1, 0).due(0, "split", 2).due(3, "request", 2, 2, 0, 9, 0)
                    .due(1, "split", 3);
            tower(t.another()).due(0, "request", 9, 11, 0, 6, 0).due(0, "split", 0).due(1, "request", 9, 11, 1, 5, 0).due(0, "split", 1)
                    .due(2, "request", 9, 11, 1, 1, 0).due(1, "split", 2).due(3, "request", 9, 11, 1, 5, 0).due(1, "split", 3);
        });
        s.says(28, "NONE without it", t -> {
            t.due(-1, "split", 0).tell(TALL).due(-1, "split", 0).due(0, "request", 1, 1, 0, 60, 0).due(1, "request", 1, 1, 0, 60, 0)
                    .range(0, 0, 1, "split", 0).due(1, "split", 1);
        });
    }

    private static void without(Sentences s) {
        s.says(29, "How a REQUEST would END (RECALLED or not) if a PERSON were AWAY on all DAYS, what 0: 1 APPROVED, 2 STUCK, 1: the DAY, 2: the PERSON (-2: none)", t -> {
            t.tell(TALL + ";stand 7 9 0 7 500").due(0, "request", 1, 1, 0, 100, 5).due(1, "request", 1, 1, 1, 101, 5)
                    .due(2, "request", 1, 1, 2, 100, 8).due(3, "request", 1, 1, 3, 101, 998);
            t.dueRow("without", new int[] {0, 0}, 1, 5, 3).dueRow("without", new int[] {0, 3}, 1, 8, 7).dueRow("without", new int[] {0, 7}, 1, 5, 3)
                    .dueRow("without", new int[] {0, 15}, 1, 5, 3);
            t.dueRow("without", new int[] {1, 7}, 1, 6, 9).dueRow("without", new int[] {2, 3}, 1, 11, 7).dueRow("without", new int[] {2, 7}, 1, 8, 3)
                    .dueRow("without", new int[] {3, 7}, 2, 999, -2);
            t.dueRow("without", new int[] {3, 3}, 2, 999, -2).dueRow("without", new int[] {3, 9}, 1, 999, 7).due(1, "recall", 1, 5)
                    .dueRow("without", new int[] {1, 7}, 1, 6, 9).dueRow("without", new int[] {1, 0}, 1, 6, 7);
            t.due(0, "away", 9, 0, 99).dueRow("without", new int[] {1, 7}, 2, 8, -2);
        });
        s.says(29, "NONE without these", t -> {
            t.due(-1, "without", 0, 0, 0).tell(TALL).due(-1, "without", 0, 0, 0).due(0, "request", 1, 1, 0, 501, 0).due(1, "request", 1, 1, 0, 5, 0)
                    .range(0, 0, 1, "without", 0, 0, 0).range(1, 0, 15, "without", 0, 0, 0).range(2, 0, 2, "without", 0, 0, 0);
            t.range(2, 0, 2, "without", 1, 3, 0).due(-1, "without", 2, 0, 2).due(-2, "without", 0, 0, 2).due(-1, "without", 0, 16, 2);
        });
    }

    private static void cures(Sentences s) {
        s.says(30, "The AWAY without which a REQUEST (RECALLED or not) would be APPROVED soonest (of several the first), what 0: which, 1: the DAY", t -> {
            t.tell(TALL + ";wait 0;away 9 0 999;away 7 6 6;away 3 5 5").due(0, "request", 1, 1, 0, 100, 5).due(1, "request", 1, 1, 1, 101, 5)
                    .due(2, "request", 1, 1, 2, 100, 5);
            t.dueRow("cure", new int[] {0}, 2, 5).dueRow("cure", new int[] {1}, 1, 6).due(3, "away", 3, 5, 5).dueRow("cure", new int[] {0}, 1, 6)
                    .due(3, "drop", 1, 0).due(1, "recall", 0, 5).dueRow("cure", new int[] {0}, 0, 6);
        });
        s.says(30, "(of several the first)", t -> {
            t.tell(TALL + ";away 9 0 0;away 10 0 0").due(0, "request", 1, 1, 0, 100, 5).due(1, "request", 1, 1, 1, 101, 999)
                    .dueRow("cure", new int[] {0}, 0, 5).dueRow("cure", new int[] {1}, -2, -2);
            t.due(1, "drop", 1, 0).dueRow("cure", new int[] {0}, 0, 5).due(1, "away", 3, 5, 5).dueRow("cure", new int[] {0}, 1, 5)
                    .due(2, "away", 7, 5, 5).dueRow("cure", new int[] {0}, 1, 5);
        });
        s.says(30, "-2: no AWAY, or without none of them is it APPROVED", t -> {
            t.tell(TALL).due(0, "request", 1, 1, 0, 100, 5).due(1, "request", 1, 1, 1, 501, 5).due(2, "request", 1, 0, 2, 101, 999)
                    .dueRow("cure", new int[] {0}, -2, -2).due(0, "away", 7, 0, 999).dueRow("cure", new int[] {0}, 0, 5);
            t.dueRow("cure", new int[] {1}, -2, -2).dueRow("cure", new int[] {2}, 0, 999).due(1, "away", 7, 999, 999)
                    .dueRow("cure", new int[] {2}, -2, -2).due(2, "away", 0, 0, 0).dueRow("cure", new int[] {2}, -2, -2);
            t.due(2, "drop", 1, 0).dueRow("cure", new int[] {2}, 0, 999);
        });
        s.says(30, "NONE without these", t -> {
            t.due(-1, "cure", 0, 0).tell(TALL).due(0, "request", 1, 1, 0, 100, 5).due(1, "request", 1, 1, 0, 100, 5).range(0, 0, 1, "cure", 0, 0)
                    .range(1, 0, 1, "cure", 0, 0).due(0, "away", 3, 5, 5).range(0, 0, 1, "cure", 0, 0).range(1, 0, 1, "cure", 0, 0);
        });
        s.says(30, "what 0: which, 1: the DAY", t -> {
            t.tell("post top 9 9 9;hold 0 1 0 999;wait 0").due(0, "request", 2, 0, 0, 1, 999).due(1, "request", 2, 0, 0, 1, 0);
            for (int k = 0; k < 23; k++) {
                t.due(k, "away", 3, 0, 999);
            }
            t.due(23, "away", 1, 0, 999).dueRow("cure", new int[] {0}, 23, 999).dueRow("cure", new int[] {1}, 23, 0);
        });
    }

    private static void most(Sentences s) {
        s.says(31, "The greatest AMOUNT (1 to 9999) with which a REQUEST (all else as it is, RECALLED or not) would be APPROVED at a POST that is so many above its own (0: its own), or at one below that", t -> {
            t.tell("post top 9999 200 0;post 0 100 300 0;post 1 500 1 0;hold 0 1 0 999;hold 1 2 0 999;hold 2 3 0 999;window 5")
                    .due(0, "request", 9, 2, 0, 1, 5).due(1, "request", 9, 2, 10, 9999, 5).due(2, "request", 9, 2, 20, 1, 5);
            t.dueRow("most", new int[] {0}, 500, 500, 9999, -1).dueRow("most", new int[] {1}, 1, 300, 300, -1)
                    .dueRow("most", new int[] {2}, -2, -2, -2, -1).due(3, "request", 9, 2, 10, 5, 5).dueRow("most", new int[] {3}, -2, -2, -2, -1);
            t.due(1, "recall", 1, 5).dueRow("most", new int[] {1}, 1, 300, 300, -1).dueRow("most", new int[] {3}, 1, 300, 300, -1)
                    .due(4, "request", 9, 2, 10, 5, 6).dueRow("most", new int[] {4}, -2, 295, 295, -1).due(5, "request", 9, 2, 0, 5, 5)
                    .dueRow("most", new int[] {5}, 499, 499, 9998);
        });
        s.says(31, "-2: with none", t -> {
            t.tell("post top 2 1 0;hold 0 1 0 5;window 9").due(0, "request", 9, 0, 0, 1, 5).due(1, "request", 9, 0, 0, 1, 5)
                    .due(2, "request", 9, 0, 0, 1, 5).due(3, "request", 9, 0, 10, 1, 5).due(4, "request", 9, 0, 20, 1, 5)
                    .due(5, "request", 9, 0, 0, 1, 6);
            t.due(2, "most", 0, 0).due(1, "most", 1, 0).due(-2, "most", 2, 0).due(1, "most", 3, 0).due(-2, "most", 4, 0).due(-2, "most", 5, 0)
                    .due(6, "request", 1, 0, 0, 1, 5).due(-2, "most", 6, 0);
            t = t.another().tell("post top 9 9 9;post 0 0 0 0;hold 0 1 0 999").due(0, "request", 9, 1, 0, 1, 996).due(1, "request", 9, 1, 0, 1, 997)
                    .due(9, "most", 0, 1).due(-2, "most", 1, 1).due(-2, "most", 0, 0).due(1, "set", 1, 0).due(9, "most", 1, 1);
        });
        s.says(31, "NONE without it, or if there are not so many above", t -> {
            t.due(-1, "most", 0, 0).tell("post top 2 1 0" + ";post 0 0 0 0" + ";post 1 0 0 0").due(-1, "most", 0, 0).due(0, "request", 9, 2, 0, 1, 5)
                    .due(1, "request", 9, 0, 0, 1, 5).range(0, 0, 1, "most", 0, 0).range(1, 0, 2, "most", 0, 0).range(1, 0, 0, "most", 1, 0);
        });
        s.says(31, "or if there are not so many above", t -> {
            tower(t).due(0, "request", 9, 11, 0, 1, 0).range(1, 0, 11, "most", 0, 0).due(-2, "most", 0, 10).due(5, "most", 0, 11);
        });
    }

    private static void soonest(Sentences s) {
        s.says(38, "Of DAYS from one to another one (not below it, 60 more at most)", t -> {
            t.tell("post top 9 0 0;hold 0 1 60 60;hold 0 1 999 999;wait 0").due(0, "request", 2, 0, 0, 1, 5)
                    .dueRow("soonest", new int[] {0, 0, 60}, 60, 60).dueRow("soonest", new int[] {0, 0, 59}, -2, -2)
                    .dueRow("soonest", new int[] {0, 60, 120}, 60, 60);
            t.dueRow("soonest", new int[] {0, 61, 121}, -2, -2).dueRow("soonest", new int[] {0, 60, 60}, 60, 60)
                    .dueRow("soonest", new int[] {0, 939, 999}, 999, 999).due(-1, "soonest", 0, 0, 61, 0).due(-1, "soonest", 0, 938, 999, 0)
                    .due(-1, "soonest", 0, 60, 59, 0);
        });
        s.says(38, "those on which a REQUEST might have been made (all else as it is, RECALLED or not; JOINED by that DAY)", t -> {
            t.tell(TALL + ";window 5").due(0, "request", 1, 1, 0, 600, 10).due(1, "request", 1, 1, 0, 60, 100).due(1, "recall", 0, 13)
                    .due(2, "request", 1, 1, 0, 9999, 12).dueRow("soonest", new int[] {1, 10, 12}, -2, -2)
                    .dueRow("soonest", new int[] {1, 5, 13}, 13, 13);
            t.dueRow("soonest", new int[] {1, 4, 13}, 4, 4).dueRow("soonest", new int[] {1, 5, 5}, -2, -2);
            t.another().tell(TALL).due(0, "request", 1, 1, 0, 101, 100).due(1, "recall", 0, 100).dueRow("soonest", new int[] {0, 5, 9}, 5, 6);
        });
        s.says(38, "that by which it would be APPROVED on the earliest DAY (of several the first), what 0: that DAY, 1: the DAY on which it would be APPROVED", t -> {
            t.tell(TALL + ";away 3 0 9").due(0, "request", 1, 1, 0, 100, 500).dueRow("soonest", new int[] {0, 0, 9}, 0, 3)
                    .dueRow("soonest", new int[] {0, 7, 10}, 7, 10).dueRow("soonest", new int[] {0, 8, 60}, 8, 10)
                    .dueRow("soonest", new int[] {0, 10, 10}, 10, 10);
            t.dueRow("soonest", new int[] {0, 11, 60}, 11, 11).due(1, "set", 1, 9).dueRow("soonest", new int[] {0, 0, 9}, 8, 10)
                    .dueRow("soonest", new int[] {0, 0, 7}, 0, 11).due(9, "set", 1, 0).dueRow("soonest", new int[] {0, 0, 9}, 0, 2);
        });
        s.says(38, "-2: by none", t -> {
            t.tell(TALL).due(0, "request", 1, 1, 0, 101, 5).due(1, "request", 1, 1, 0, 501, 5).dueRow("soonest", new int[] {0, 998, 999}, 998, 999)
                    .dueRow("soonest", new int[] {0, 999, 999}, -2, -2).dueRow("soonest", new int[] {1, 0, 60}, -2, -2);
            t.due(-1, "soonest", 1, 0, 61, 0).due(-1, "soonest", 1, 0, 60, 2).due(-1, "soonest", 2, 0, 60, 0);
        });
        s.says(38, "NONE without these", t -> {
            t.due(-1, "soonest", 0, 0, 0, 0).tell(TALL).due(0, "request", 1, 1, 0, 101, 5).due(1, "request", 1, 1, 0, 501, 5)
                    .range(0, 0, 1, "soonest", 0, 5, 9, 0).range(1, 0, 9, "soonest", 0, 5, 9, 0).range(1, 40, 100, "soonest", 0, 50, 100, 0);
            t.range(2, 500, 560, "soonest", 0, 500, 510, 0).range(2, 950, 999, "soonest", 0, 950, 951, 0).range(3, 0, 1, "soonest", 0, 5, 9, 0)
                    .due(-1, "soonest", 0, Trial.LOW, Trial.HIGH, 0).due(-1, "soonest", 0, Trial.HIGH, Trial.LOW, 0);
        });
    }

    private static void instead(Sentences s) {
        s.says(39, "How a REQUEST would END (RECALLED or not) had it been made at another POST, what 0: 1 APPROVED, 2 STUCK, 1: the DAY, 2: the PERSON (-2: none)", t -> {
            t.tell(TALL + ";post top 9 0 0;hold 2 5 0 999").due(0, "request", 1, 1, 0, 101, 5).due(1, "request", 1, 0, 1, 9, 999)
                    .dueRow("instead", new int[] {0, 0}, 1, 5, 7).dueRow("instead", new int[] {0, 2}, 2, 5, -2)
                    .dueRow("instead", new int[] {1, 2}, 1, 999, 5);
            t.dueRow("instead", new int[] {1, 1}, 1, 999, 3).due(2, "request", 1, 0, 1, 101, 999).dueRow("instead", new int[] {2, 1}, 2, 999, -2)
                    .due(1, "recall", 0, 5).dueRow("instead", new int[] {0, 0}, 1, 5, 7).dueRow("instead", new int[] {0, 2}, 2, 5, -2);
        });
        s.says(39, "NONE without these (that POST may be its own)", t -> {
            t.due(-1, "instead", 0, 0, 0).tell(TALL).due(-1, "instead", 0, 0, 0).due(0, "request", 1, 1, 0, 101, 5).due(1, "request", 1, 0, 1, 501, 5)
                    .dueRow("instead", new int[] {0, 1}, 1, 6, 7, -1).dueRow("instead", new int[] {1, 0}, 2, 5, -2, -1);
            t.range(0, 0, 1, "instead", 0, 0, 0).range(1, 0, 1, "instead", 0, 0, 0).range(2, 0, 2, "instead", 0, 0, 0)
                    .range(2, 0, 2, "instead", 1, 0, 0).due(-1, "instead", 1, 2, 2).due(-1, "instead", 2, 0, 2);
        });
    }

    private static void pillars(Sentences s) {
        s.says(40, "The PERSON who, AWAY on all DAYS, would make the most REQUESTS (not RECALLED) STUCK that are APPROVED (of several the least), what 0: which, 1: how many", t -> {
            t.tell("post top 9 9 9;post top 9 9 9;hold 0 15 0 999;hold 1 4 0 999").due(0, "request", 1, 0, 0, 5, 0)
                    .dueRow("pillar", new int[0], 15, 1).due(1, "request", 1, 1, 1, 5, 0).dueRow("pillar", new int[0], 4, 1)
                    .due(2, "request", 1, 0, 2, 5, 0);
            t.dueRow("pillar", new int[0], 15, 2).due(3, "request", 1, 1, 3, 10, 0).dueRow("pillar", new int[0], 15, 2).due(9, "limit", 1, 0, 10)
                    .dueRow("pillar", new int[0], 4, 2).due(9, "limit", 0, 0, 0).dueRow("pillar", new int[0], 4, 2).due(1, "recall", 0, 0);
            t.due(0, "limit", 0, 0, 9).due(10, "limit", 1, 0, 9).dueRow("pillar", new int[0], 4, 1);
            t = t.another().tell(TALL).due(0, "request", 1, 1, 0, 101, 996).dueRow("pillar", new int[0], 7, 1).due(1, "request", 1, 1, 0, 101, 997)
                    .dueRow("pillar", new int[0], 7, 2).due(1, "undo");
            t.due(1, "request", 1, 1, 0, 100, 998).dueRow("pillar", new int[0], 3, 1).due(2, "request", 1, 1, 0, 100, 999)
                    .dueRow("pillar", new int[0], 3, 2);
        });
        s.says(40, "would make the most REQUESTS (not RECALLED) STUCK that are APPROVED", t -> {
            tower(t).due(0, "request", 9, 11, 0, 5, 0).due(12, "step", 0, -1, 0).dueRow("pillar", new int[0], 1, 1).due(1, "request", 9, 11, 1, 6, 0)
                    .dueRow("pillar", new int[0], 1, 1).due(2, "request", 9, 0, 2, 5, 0).dueRow("pillar", new int[0], 1, 2);
        });
        s.says(40, "-2: none would", t -> {
            t.dueRow("pillar", new int[0], -2, -2).tell(TALL).dueRow("pillar", new int[0], -2, -2).due(0, "request", 1, 1, 0, 100, 5)
                    .dueRow("pillar", new int[0], -2, -2).due(1, "request", 1, 1, 1, 501, 5).dueRow("pillar", new int[0], -2, -2);
            t.due(2, "request", 1, 1, 2, 101, 5).dueRow("pillar", new int[0], 7, 1).due(1, "recall", 2, 5).dueRow("pillar", new int[0], -2, -2);
        });
        s.says(40, "what 0: which, 1: how many", t -> {
            t.tell("post top 9 9 9;hold 0 0 0 999");
            for (int k = 0; k < 40; k++) {
                t.due(k, "request", 1, 0, 0, 9, k);
            }
            t.dueRow("pillar", new int[0], 0, 40).due(0, "stand", 0, 2, 0, 10, 9).dueRow("pillar", new int[0], 0, 29).due(1, "stand", 0, 2, 11, 11, 8)
                    .dueRow("pillar", new int[0], 0, 29);
        });
        s.says(40, "NONE for others", t -> {
            t.due(-1, "pillar", 2).due(-1, "pillar", -1).tell(TALL).due(0, "request", 1, 1, 0, 101, 5).range(0, 0, 1, "pillar", 0);
        });
    }

    private static void dodges(Sentences s) {
        String fifth = "post top 100 0 1;hold 0 3 0 999;window 4;foe 3 9";
        s.says(42, "The fewest parts (1 to 40) into which an AMOUNT (1 to 9999) could go", t -> {
            t.tell(fifth).due(1, "dodge", 1, 0, 0, 1, 0).due(1, "dodge", 1, 0, 0, 100, 0).due(2, "dodge", 1, 0, 0, 101, 0)
                    .due(2, "dodge", 1, 0, 0, 200, 0).due(3, "dodge", 1, 0, 0, 201, 0).due(39, "dodge", 1, 0, 0, 3900, 0);
            t.due(40, "dodge", 1, 0, 0, 3901, 0).due(40, "dodge", 1, 0, 0, 4000, 0).due(-2, "dodge", 1, 0, 0, 4001, 0)
                    .due(-2, "dodge", 1, 0, 0, 9999, 0).due(100, "limit", 0, 0, 250).due(40, "dodge", 1, 0, 0, 9999, 0).due(250, "limit", 0, 0, 249);
            t.due(-2, "dodge", 1, 0, 0, 9999, 0).due(249, "limit", 0, 0, 9999).due(1, "dodge", 1, 0, 0, 9999, 0);
        });
        s.says(42, "as alike as can be (the first ones 1 more), none below 1", t -> {
            t.tell("post top 100 0 0;hold 0 3 0 999;away 3 0 5;stand 3 4 0 0 51;stand 3 4 5 5 50;window 4").due(2, "dodge", 1, 0, 0, 101, 0)
                    .due(3, "dodge", 1, 0, 0, 102, 0).due(1, "drop", 2, 0).due(1, "stand", 3, 4, 0, 0, 50).due(2, "dodge", 1, 0, 0, 100, 0);
            t.due(3, "dodge", 1, 0, 0, 101, 0).due(3, "dodge", 1, 0, 0, 150, 0).due(4, "dodge", 1, 0, 0, 151, 0);
            t = t.another().tell("post top 1 0 0;hold 0 3 0 999").due(1, "dodge", 1, 0, 0, 1, 0).due(2, "dodge", 1, 0, 0, 2, 0)
                    .due(40, "dodge", 1, 0, 0, 40, 0).due(-2, "dodge", 1, 0, 0, 41, 0).due(-2, "dodge", 1, 0, 10, 1, 0)
                    .due(-2, "dodge", 1, 0, 10, 9999, 0);
        });
        s.says(42, "each a request of its own by a PERSON at a POST (which as in request(), nothing JOINED)", t -> {
            t.tell(fifth).due(0, "request", 1, 0, 0, 100, 0).due(1, "request", 1, 0, 0, 100, 5).due(2, "dodge", 1, 0, 0, 200, 0)
                    .due(-2, "dodge", 3, 0, 0, 1, 0).due(1, "dodge", 2, 0, 0, 1, 0).due(1, "dodge", 4, 0, 0, 1, 0).due(-2, "dodge", 1, 0, 9, 1, 0);
            t.due(1, "dodge", 1, 0, 8, 1, 0).due(-2, "dodge", 1, 0, 10, 1, 0).due(1, "dodge", 1, 0, 20, 1, 0).due(2, "dodge", 1, 0, 20, 2, 0)
                    .due(-2, "dodge", 1, 0, 29, 1, 0);
        });
        s.says(42, "the first on a DAY, each WINDOW and 1 DAYS behind the one ahead", t -> {
            t.tell("post top 100 0 0;hold 0 3 10 10;hold 0 3 15 15;hold 0 3 20 20;wait 0;window 4").due(3, "dodge", 1, 0, 0, 300, 10)
                    .due(-2, "dodge", 1, 0, 0, 301, 10).due(2, "dodge", 1, 0, 0, 200, 15).due(-2, "dodge", 1, 0, 0, 200, 20)
                    .due(1, "dodge", 1, 0, 0, 100, 20);
            t.due(-2, "dodge", 1, 0, 0, 1, 9).due(-2, "dodge", 1, 0, 0, 1, 11).due(4, "set", 0, 3).due(-2, "dodge", 1, 0, 0, 200, 10)
                    .due(3, "set", 0, 5).due(-2, "dodge", 1, 0, 0, 200, 10).due(5, "set", 0, 9).due(2, "dodge", 1, 0, 0, 200, 10);
            t.due(9, "set", 0, 0).due(-2, "dodge", 1, 0, 0, 200, 10).due(3, "hold", 0, 3, 11, 11).due(2, "dodge", 1, 0, 0, 200, 10);
        });
        s.says(42, "so that each would be APPROVED at that POST (its first STEP)", t -> {
            t.tell("post top 500 0 0;post 0 100 0 0;hold 1 3 12 12;hold 0 7 0 999;window 1").due(2, "dodge", 1, 1, 0, 200, 10)
                    .due(-2, "dodge", 1, 1, 0, 100, 9).due(2, "dodge", 1, 1, 0, 101, 10).due(-2, "dodge", 1, 1, 0, 201, 10)
                    .due(-2, "dodge", 1, 1, 0, 101, 11);
            t.due(1, "dodge", 1, 1, 0, 100, 12).due(1, "dodge", 1, 0, 0, 500, 9).due(2, "dodge", 1, 0, 0, 501, 9).due(2, "set", 2, 1)
                    .due(-2, "dodge", 1, 1, 0, 100, 10).due(1, "dodge", 1, 1, 0, 100, 11);
        });
        s.says(42, "-2: by none of these (a DAY above 999 does not do)", t -> {
            t.tell(fifth).due(1, "dodge", 1, 0, 0, 100, 999).due(-2, "dodge", 1, 0, 0, 101, 999).due(2, "dodge", 1, 0, 0, 101, 994)
                    .due(-2, "dodge", 1, 0, 0, 101, 995).due(40, "dodge", 1, 0, 0, 4000, 804).due(-2, "dodge", 1, 0, 0, 4000, 805)
                    .due(39, "dodge", 1, 0, 0, 3900, 805);
            t.due(4, "set", 0, 99).due(10, "dodge", 1, 0, 0, 1000, 0).due(-2, "dodge", 1, 0, 0, 1001, 0).due(10, "dodge", 1, 0, 0, 1000, 99)
                    .due(-2, "dodge", 1, 0, 0, 1000, 100).due(99, "set", 0, 0).due(40, "dodge", 1, 0, 0, 4000, 960)
                    .due(-2, "dodge", 1, 0, 0, 4000, 961);
        });
        s.says(42, "NONE without these", t -> {
            t.due(-1, "dodge", 0, 0, 0, 1, 0).tell(TALL).range(0, 0, 15, "dodge", 1, 1, 0, 5, 0).range(1, 0, 1, "dodge", 1, 1, 0, 5, 0)
                    .range(2, 0, 29, "dodge", 1, 1, 0, 5, 0).range(3, 1, 9999, "dodge", 1, 1, 0, 5, 0).range(4, 0, 999, "dodge", 1, 1, 0, 5, 0);
            t.due(-2, "dodge", 3, 1, 0, 9999, 0).due(-1, "dodge", 3, 1, 0, 10000, 0).due(-1, "dodge", 3, 2, 0, 9999, 0)
                    .due(-1, "dodge", 3, 1, 0, 9999, 1000);
        });
    }

    private static void questionsChangeNothing(Sentences s) {
        s.says(Sentences.TERMS, "ACTS: all from request() to set()", t -> {
            t.tell(TALL + ";away 3 5 9;stand 3 4 5 7 60;stand 4 3 0 9 1;foe 7 1;window 2").due(0, "request", 1, 1, 0, 90, 5)
                    .due(1, "request", 1, 1, 0, 90, 6).due(2, "request", 2, 1, 1, 501, 6).due(1, "recall", 2, 7).due(3, "keep", 1).feed("foe 1 2");
            t.refused(500, "post", 0, 1).refused(4, "entry", 2, 0, 1).refused(180, "asked", 1, 7).refused(1, "joined", 1).refused(7, "step", 1, 1, 2)
                    .refused(3, "chain", 1, 0, 0).refused(7, "ends", 0, 2).refused(4, "decides", 1, 5, -1, 0);
            t.refused(60, "power", 4, 5, 0).refused(24, "ring", 5).refused(0, "split", 1).refused(1, "without", 0, 3, 0).refused(0, "cure", 0, 0)
                    .refused(500, "most", 0, 1).refused(2, "load", 7, 0).refused(4, "busiest", 0).refused(2, "approved", 0);
            t.refused(128, "could", 0).refused(1000, "manned", 1, 0, 999, 0).refused('p', "letter", 0).refused(4, "soonest", 0, 4, 9, 0)
                    .refused(7, "instead", 0, 0, 2).refused(7, "pillar", 0).refused(2, "gap", 1, 0, 999, 0).refused(1, "dodge", 1, 1, 0, 60, 5);
            t.refused(2, "tangle", 5).refused(1, "count", 9).due(7, "count", 12).due(4, "count", 11);
        });
    }

    /** What one question supposes (someone away, an AWAY spared, a maker, a vendor) is not there for the next. */
    private static void questionsStandAlone(Sentences s) {
        s.says(36, "by none of the PERSONS, for a VENDOR of whom nobody is a FOE, 1", t -> {
            alone(t).due(2, "without", 0, 3, 0).due(990, "manned", 0, 0, 999, 1).due(-7, "decides", 0, 0, -1, 1).due(990, "manned", 0, 0, 999, 1);
            t.due(-6, "decides", 0, 0, 3, 0).due(990, "manned", 0, 0, 999, 1).due(0, "cure", 0, 0).due(990, "manned", 0, 0, 999, 1);
        });
        s.says(41, "DAYS from one to another one on which nobody DECIDES at a POST (as manned(), what 1)", t -> {
            alone(t).due(2, "without", 0, 3, 0).due(10, "gap", 0, 0, 999, 0).due(-7, "decides", 0, 0, -1, 1).due(10, "gap", 0, 0, 999, 0);
            t.due(-6, "decides", 0, 0, 3, 0).due(10, "gap", 0, 0, 999, 0).due(0, "cure", 0, 0).due(10, "gap", 0, 0, 999, 0);
        });
        s.says(26, "on a request of a KIND by none of the PERSONS", t -> {
            alone(t).due(2, "without", 0, 3, 0).due(9, "power", 3, 0, 0).due(0, "cure", 0, 0).due(-2, "power", 3, 10, 0)
                    .due(-6, "decides", 0, 0, 3, 0).due(9, "power", 3, 0, 0);
        });
        s.says(25, "Who DECIDES at a POST on a DAY on a request by a PERSON", t -> {
            alone(t).due(2, "without", 0, 3, 0).due(3, "decides", 0, 0, -1, 0).due(0, "cure", 0, 0).due(-5, "decides", 0, 10, -1, 0)
                    .due(2, "without", 0, 3, 0);
            t.due(1, "dodge", 1, 0, 0, 9, 0).due(0, "cure", 0, 0).due(-2, "dodge", 1, 0, 0, 9, 10).due(2, "without", 0, 3, 0).due(1, "ends", 0, 0)
                    .due(8, "could", 0);
        });
    }

    private static Trial alone(Trial t) {
        return t.tell("post top 9 9 9;hold 0 3 0 999;away 3 10 19;foe 3 1").due(0, "request", 1, 0, 0, 5, 0);
    }
}
