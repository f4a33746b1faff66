/** What stands ahead of the face: a story for each thing that the class is said to be about, and the 512 calls. */
final class EdgesOfWhole {
    private static final int WHAT_IT_IS = Sentences.WHAT_IT_IS;
    private static final String ONE = "post top 100 50 20;hold 0 3 0 999";
    private static final String TWO = "post top 500 0 0;post 0 100 50 20;hold 1 3 0 999;hold 0 7 0 999;away 5 10 20;stand 5 6 0 999 50;foe 8 2";

    private EdgesOfWhole() {}

    static void all(Sentences s) {
        climbing(s);
        deciding(s);
        breaking(s);
        joining(s);
        stepping(s);
        changing(s);
        supposing(s);
        calling(s);
    }

    // ---- the stories ----

    private static void climbing(Sentences s) {
        s.says(WHAT_IT_IS, "Approval routes: requests that climb from post to post till someone's limit covers them", t -> {
            t.tell("post top 900 0 0;post 0 90 0 0;post 1 9 0 0;hold 2 1 0 999;hold 1 2 0 999;hold 0 3 0 999");
            t.due(0, "request", 5, 2, 0, 9, 0).due(1, "request", 5, 2, 0, 10, 10).due(2, "request", 5, 2, 0, 90, 20);
            t.due(3, "request", 5, 2, 0, 91, 30).due(4, "request", 5, 2, 0, 900, 40).due(5, "request", 5, 2, 0, 901, 50);
            t.dueRow("ends", new int[] {0}, 1, 0, 1, 2).dueRow("ends", new int[] {1}, 1, 11, 2, 1).dueRow("ends", new int[] {2}, 1, 21, 2, 1);
            t.dueRow("ends", new int[] {3}, 1, 32, 3, 0).dueRow("ends", new int[] {4}, 1, 42, 3, 0).dueRow("ends", new int[] {5}, 2, 52, -2, 0);
        });
    }

    private static void deciding(Sentences s) {
        s.says(WHAT_IT_IS, "holders of posts by days", t -> {
            t.tell("post top 9 0 0;hold 0 1 0 4;hold 0 2 5 9").due(1, "decides", 0, 4, -1, 0).due(2, "decides", 0, 5, -1, 0);
            t.due(-4, "decides", 0, 10, -1, 0).due(10, "manned", 0, 0, 999, 0);
        });
        s.says(WHAT_IT_IS, "those who are away", t -> {
            t.tell(ONE + ";away 3 5 9").due(3, "decides", 0, 4, -1, 0).due(-5, "decides", 0, 5, -1, 0).due(-5, "decides", 0, 9, -1, 0);
            t.due(3, "decides", 0, 10, -1, 0).due(5, "gap", 0, 0, 999, 0);
        });
        s.says(WHAT_IT_IS, "who stands in for whom and up to how much", t -> {
            t.tell(ONE + ";away 3 5 9;stand 3 4 0 999 60").due(4, "decides", 0, 5, -1, 0).due(60, "power", 4, 5, 0).due(50, "power", 4, 5, 1);
            t.due(-2, "power", 4, 4, 0).due(0, "request", 1, 0, 0, 60, 5).dueRow("ends", new int[] {0}, 1, 5, 4, 0);
            t.due(1, "request", 2, 0, 0, 61, 5).due(2, "ends", 1, 0).due(1, "step", 1, 0, 4);
        });
        s.says(WHAT_IT_IS, "vendors one must not decide on", t -> {
            t.tell(ONE + ";foe 3 6").due(-7, "decides", 0, 0, -1, 6).due(3, "decides", 0, 0, -1, 5).due(0, "request", 1, 0, 6, 1, 0);
            t.due(2, "ends", 0, 0).due(0, "drop", 3, 0).due(1, "ends", 0, 0);
        });
        s.says(WHAT_IT_IS, "nobody decides on a request of their own", t -> {
            t.tell(ONE + ";stand 3 4 0 999 99").due(0, "request", 3, 0, 0, 1, 0).due(2, "ends", 0, 0).due(4, "step", 0, 0, 4);
            t.due(0, "away", 3, 0, 999).due(2, "ends", 0, 0).due(1, "request", 4, 0, 0, 1, 0).due(2, "ends", 1, 0).due(3, "step", 1, 0, 4);
        });
    }

    private static void breaking(Sentences s) {
        s.says(WHAT_IT_IS, "rings of these broken", t -> {
            t.tell(ONE + ";away 3 0 9;away 4 0 9;away 5 0 5;stand 3 4 0 999 90;stand 4 5 0 999 80;stand 5 3 0 999 70");
            t.due(0b111000, "ring", 0).due(-5, "decides", 0, 0, -1, 0).due(5, "decides", 0, 6, -1, 0).due(80, "power", 5, 6, 0);
            t.due(2, "drop", 2, 2).due(0, "ring", 0).due(5, "decides", 0, 6, -1, 0);
        });
    }

    private static void joining(Sentences s) {
        s.says(WHAT_IT_IS, "purchases that were split are joined by a window and need the whole's limit", t -> {
            t.tell(ONE + ";window 3").due(0, "request", 1, 0, 0, 60, 0).due(1, "request", 1, 0, 0, 40, 3).due(2, "request", 1, 0, 0, 1, 6);
            t.due(3, "request", 1, 0, 0, 100, 10).due(0, "joined", 0).due(1, "joined", 1).due(3, "joined", 2).due(0, "joined", 3);
            t.due(1, "ends", 0, 0).due(1, "ends", 1, 0).due(2, "ends", 2, 0).due(1, "ends", 3, 0).due(101, "asked", 2, 7);
            t.due(0, "split", 1).due(1, "split", 2).due(0, "split", 3).due(3, "set", 0, 2).due(0, "split", 2).due(1, "ends", 2, 0);
        });
    }

    private static void stepping(Sentences s) {
        s.says(WHAT_IT_IS, "each step with its day, its person, its limit, its reason", t -> {
            t.tell("post top 90 0 0;post 0 50 0 0;post 1 40 0 0;hold 2 1 0 999;hold 1 2 0 999;hold 0 3 0 999;away 1 0 999;pace 4;wait 1");
            t.due(0, "request", 5, 2, 0, 60, 100).due(3, "step", 0, -1, 0).dueRow("step", new int[] {0, 0}, 2, 101, -2, -2, 3, -2);
            t.dueRow("step", new int[] {0, 1}, 1, 105, 2, 50, 1, 0).dueRow("step", new int[] {0, 2}, 0, 109, 3, 90, 0, 0);
        });
    }

    private static void changing(Sentences s) {
        s.says(WHAT_IT_IS, "recalled, told anew", t -> {
            t.tell(ONE).due(0, "request", 1, 0, 25, 101, 4).due(2, "ends", 0, 0).due(1, "amend", 0, 20, 7).dueRow("ends", new int[] {0}, 3, 7, -2, 0);
            t.dueRow("asked", new int[] {1}, 1, 0, 5, 2, 20, 7, -2, 20, 0).dueRow("ends", new int[] {1}, 1, 7, 3, 0).due(-3, "recall", 1, 7);
        });
        s.says(WHAT_IT_IS, "undone, kept.", t -> {
            t.tell(ONE).due(0, "request", 1, 0, 0, 1, 0).due(1, "keep", 0).due(0, "drop", 0, 0).due(2, "ends", 0, 0).due(1, "undo").due(1, "ends", 0, 0);
            t.due(0, "undo").due(-1, "ends", 0, 0).due(-1, "undo").due(1, "back", 0).due(1, "ends", 0, 0).due(-1, "undo");
        });
    }

    private static void supposing(Sentences s) {
        s.says(WHAT_IT_IS, "what if someone were away, which absence costs most, who is busiest", t -> {
            t.tell(TWO).due(0, "request", 1, 1, 0, 101, 5).due(1, "request", 2, 1, 3, 60, 5).due(2, "request", 4, 0, 0, 7, 5);
            t.dueRow("without", new int[] {0, 3}, 1, 8, 7).dueRow("without", new int[] {0, 7}, 2, 8, -2).dueRow("without", new int[] {1, 7}, 1, 5, 3);
            t.dueRow("pillar", new int[0], 7, 2).dueRow("busiest", new int[0], 3, 2).due(2, "load", 3, 0).due(2, "load", 7, 0);
        });
    }

    // ---- the calls ----

    private static void calling(Sentences s) {
        s.says(WHAT_IT_IS, "An object is used for at most 512 calls after it has been made", t -> {
            t.tell(TWO).due(0, "request", 1, 1, 0, 101, 5).due(1, "request", 2, 1, 3, 60, 5).due(2, "keep", 1).feed("foe 1 2");
            lastActs(t);
            lastLooks(t);
            lastWhatIfs(t);
        });
        s.says(WHAT_IT_IS, "what later calls answer is free.", t -> {
            ApprovalRoutes object = new ApprovalRoutes();
            int answers = 0;
            for (int k = 0; k < 3000; k++) {
                answers += object.away(k % 16, 0, 999) + object.stand(k % 16, (k + 1) % 16, 0, 999, 9) + object.drop(1 + k % 2, 0) + object.undo();
            }
            s.check(answers >= 0, "calls behind the last one that is promised end, and throw nothing");
        });
    }

    private static void lastActs(Trial t) {
        t.dueAsLast(27, "feed", 0, 0, 0, 0, 0).dueAsLast(3, "end", 3).dueAsLast(0, "tell").dueAsLast(2, "request", 1, 1, 0, 1, 5);
        t.dueAsLast(1, "recall", 0, 5).dueAsLast(-3, "recall", 0, 6).dueAsLast(2, "amend", 0, 100, 5).dueAsLast(2, "hold", 0, 1, 0, 0);
        t.dueAsLast(1, "away", 1, 0, 0).dueAsLast(1, "stand", 1, 2, 0, 0, 5).dueAsLast(1, "foe", 8, 3).dueAsLast(1, "drop", 0, 0);
        t.dueAsLast(500, "limit", 0, 0, 400).dueAsLast(2, "set", 2, 5).dueAsLast(1, "undo").dueAsLast(2, "keep", 0).dueAsLast(2, "back", 1);
    }

    private static void lastLooks(Trial t) {
        t.dueAsLast(0, "post", 1, 0).dueAsLast(50, "entry", 2, 0, 4).dueAsLast(60, "asked", 1, 4).dueAsLast(0, "joined", 1);
        t.dueAsLast(7, "step", 0, 1, 2).dueAsLast(3, "chain", 0, 0, 0).dueAsLast(6, "ends", 0, 1).dueAsLast(-6, "decides", 1, 5, 3, 0);
        t.dueAsLast(500, "power", 7, 5, 0).dueAsLast(0, "ring", 5).dueAsLast(2, "load", 3, 0).dueAsLast(2, "busiest", 1).dueAsLast(161, "approved", 1);
        t.dueAsLast(136, "could", 1).dueAsLast(1000, "manned", 0, 0, 999, 1).dueAsLast(0, "gap", 1, 0, 999, 0).dueAsLast(2, "tangle", 5);
        t.dueAsLast(TWO.length(), "letter", -1).dueAsLast('2', "letter", TWO.length() - 1).dueAsLast(2, "count", 8);
    }

    private static void lastWhatIfs(Trial t) {
        t.dueAsLast(0, "split", 0).dueAsLast(2, "without", 0, 7, 0).dueAsLast(6, "cure", 0, 1).dueAsLast(100, "most", 0, 0);
        t.dueAsLast(1, "soonest", 0, 0, 60, 1).dueAsLast(5, "instead", 0, 0, 1).dueAsLast(1, "pillar", 1).dueAsLast(2, "dodge", 1, 1, 0, 101, 5);
    }
}
