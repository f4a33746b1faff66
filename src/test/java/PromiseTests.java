import java.nio.charset.StandardCharsets;

/** For each promise of the document: ordinary inputs, the edges it names, wrong inputs; all answers worked out by hand. */
public final class PromiseTests {
    private static final int LOW = Integer.MIN_VALUE;
    private static final int HIGH = Integer.MAX_VALUE;

    /** Post 1 under post 0; 3 holds post 1 up to day 99, 7 holds post 0; 4 stands in for 3 a while. */
    private static final String SMALL = "post top 500 0 0;post 0 100 50 20;hold 1 3 0 99;hold 0 7 0 999;"
            + "away 3 10 20;stand 3 4 5 15 60;foe 7 2;window 3";

    private static int checks = 0;
    private static int wrong = 0;
    private static int promise = 0;

    private static void due(String what, long got, long want) {
        checks++;
        if (got != want) {
            wrong++;
            System.out.println("promise " + promise + ": " + what + " answered " + got + ", due is " + want);
        }
    }

    private static void feed(ApprovalRoutes x, String text) {
        byte[] bytes = text.getBytes(StandardCharsets.ISO_8859_1);
        int before = x.count(12);
        for (int at = 0; at < bytes.length; at += 20) {
            int[] five = new int[5];
            for (int i = 0; i < 20; i++) {
                five[i / 4] = five[i / 4] << 8 | (at + i < bytes.length ? bytes[at + i] & 255 : 0);
            }
            x.feed(five[0], five[1], five[2], five[3], five[4]);
        }
        x.end(before + bytes.length);
    }

    private static int tell(ApprovalRoutes x, String text) {
        feed(x, text);
        return x.tell();
    }

    private static ApprovalRoutes told(String text) {
        ApprovalRoutes x = new ApprovalRoutes();
        int answer = tell(x, text);
        if (answer < 0) {
            wrong++;
            System.out.println("promise " + promise + ": the text of the test is none: " + text + ": " + answer);
        }
        return x;
    }

    private static String letter(ApprovalRoutes x) {
        StringBuilder text = new StringBuilder();
        for (int k = 0; k < x.letter(-1); k++) {
            text.append((char) x.letter(k));
        }
        return text.toString();
    }

    private static void dueText(String what, ApprovalRoutes x, String want) {
        String got = letter(x);
        due(what + " (" + got + ")", got.equals(want) ? 1 : 0, 1);
    }

    private static void dueFault(String text, int place, int how) {
        ApprovalRoutes x = told("post top 1 2 3;hold 0 5 6 7");
        due("tell of '" + text + "'", tell(x, text), -2 - (8 * place + how));
        due("the tape behind '" + text + "'", x.count(12), 0);
        dueText("the order behind '" + text + "'", x, "post top 1 2 3;hold 0 5 6 7");
    }

    private static void dueSteps(ApprovalRoutes x, int request, int[]... steps) {
        due("how many steps of " + request, x.step(request, -1, 0), steps.length);
        for (int k = 0; k < steps.length; k++) {
            for (int what = 0; what < 6; what++) {
                due("step(" + request + ", " + k + ", " + what + ")", x.step(request, k, what), steps[k][what]);
            }
        }
    }

    private static int[] row(int... numbers) {
        return numbers;
    }

    public static void main(String[] args) {
        Runnable[] all = {
            PromiseTests::aNewObject, PromiseTests::feeding, PromiseTests::ending, PromiseTests::telling, PromiseTests::requesting,
            PromiseTests::recalling, PromiseTests::amending, PromiseTests::holding, PromiseTests::beingAway, PromiseTests::standing,
            PromiseTests::foes, PromiseTests::dropping, PromiseTests::limits, PromiseTests::setting, PromiseTests::undoing,
            PromiseTests::keeping, PromiseTests::goingBack, PromiseTests::posts, PromiseTests::entries, PromiseTests::askedFor,
            PromiseTests::joinedOnes, PromiseTests::steps, PromiseTests::chains, PromiseTests::endings, PromiseTests::deciding,
            PromiseTests::powers, PromiseTests::rings, PromiseTests::splits, PromiseTests::withoutOne, PromiseTests::cures,
            PromiseTests::mosts, PromiseTests::loads, PromiseTests::busiestOnes, PromiseTests::approvedOnes, PromiseTests::coulds,
            PromiseTests::mannedDays, PromiseTests::letters, PromiseTests::soonestDays, PromiseTests::insteads, PromiseTests::pillars,
            PromiseTests::gaps, PromiseTests::dodges, PromiseTests::tangles, PromiseTests::counts,
        };
        for (Runnable one : all) {
            promise++;
            one.run();
        }
        System.out.println(wrong == 0 ? checks + " answers are as due" : wrong + " of " + checks + " answers are not as due");
        if (wrong != 0) {
            System.exit(1);
        }
    }

    private static void aNewObject() {
        ApprovalRoutes x = new ApprovalRoutes();
        int[] counts = {0, 0, 0, 0, 0, 0, 1, 2, 0, 0, 0, 0, 0, 0};
        for (int what = 0; what < counts.length; what++) {
            due("count(" + what + ")", x.count(what), counts[what]);
        }
        due("NONE", ApprovalRoutes.NONE, -1);
        due("no text", x.letter(-1), 0);
        due("no post", x.request(0, 0, 0, 1, 0), -1);
        due("nothing to undo", x.undo(), -1);
        due("an away needs no post", x.away(0, 0, 0), 0);
    }

    private static void feeding() {
        ApprovalRoutes x = new ApprovalRoutes();
        due("twenty", x.feed(0x61776179, 0x20312032, 0x20333b66, 0x6f652034, 0x20372020), 20);
        due("the highest first", x.tell(), 0);
        dueText("the order", x, "away 1 2 3;foe 4 7");
        for (int k = 1; k <= 20; k++) {
            due("feed", x.feed(-1, LOW, HIGH, 0, 1), 20 * k);
        }
        due("more than 400", x.feed(0, 0, 0, 0, 0), -1);
        due("none comes", x.count(12), 400);
        x.end(381);
        due("401", x.feed(0, 0, 0, 0, 0), -1);
        due("still", x.count(12), 381);
        x.end(380);
        due("400 behind 380", x.feed(0, 0, 0, 0, 0), 400);
        x.end(3);
        due("behind what is left", x.feed(0, 0, 0, 0, 0), 23);
        due("a byte above 127 stands nowhere", x.tell(), -2 - 1);
    }

    private static void ending() {
        ApprovalRoutes x = new ApprovalRoutes();
        due("of an empty tape", x.end(0), 0);
        due("it has none", x.end(1), -1);
        feed(x, "foe 1 2;foe 3 4;foe 5 6");
        due("below 0", x.end(-1), -1);
        due("lowest", x.end(LOW), -1);
        due("highest", x.end(HIGH), -1);
        due("not so many", x.end(24), -1);
        due("all", x.end(23), 23);
        due("the first ones", x.end(7), 7);
        due("no more", x.end(8), -1);
        due("count", x.count(12), 7);
        x.tell();
        dueText("the first bytes alone", x, "foe 1 2");
    }

    private static void telling() {
        ApprovalRoutes x = told(SMALL);
        due("posts", x.count(0), 2);
        x.keep(0);
        x.request(1, 1, 0, 5, 5);
        due("in place of the one there was", tell(x, "post top 1 2 3;wait 0"), 1);
        due("no requests", x.count(8), 0);
        due("nothing can be undone", x.undo(), -1);
        due("the tape is empty", x.count(12), 0);
        dueText("the new order", x, "post top 1 2 3;wait 0");
        due("shelves stay", x.back(0), 0);
        dueText("the kept order", x, SMALL);
        due("nothing tells no posts", tell(x, ""), 0);
        dueText("nothing", x, "");
        due("the window is as at first", x.count(5), 0);
        tell(x, SMALL);
        due("blanks alone", tell(x, "   "), 0);
        dueText("nothing, too", x, "");
        due("blanks as one likes", tell(x, "  post   top 0001 2 3 ;  hold0  15 0 999;post0 4 5 6;post 1 9999 0 0 "), 3);
        dueText("told plainly", x, "post top 1 2 3;post 0 4 5 6;post 1 9999 0 0;hold 0 15 0 999");
        due("any order of parts", tell(x, "wait 30;foe 15 9;pace 9;stand 15 0 999 999 9999;window 99;away 15 0 0;foe 15 9"), 0);
        dueText("the same foe twice", x, "away 15 0 0;stand 15 0 999 999 9999;foe 15 9;foe 15 9;window 99;pace 9;wait 30");
        tellingBytesOutOfPlace();
        tellingNumbersNotAsTold();
        tellingTooMany();
        tellingFaultKeepsAll();
    }

    private static void tellingBytesOutOfPlace() {
        dueFault("post", 4, 1);
        dueFault("post top 1 2", 12, 1);
        dueFault("post top 1 2   ", 15, 1);
        dueFault("post tip 1 2 3", 5, 1);
        dueFault("post topp 1 2 3", 5, 1);
        dueFault("posttop 1 2 3", 0, 1);
        dueFault("post top top 2 3", 9, 1);
        dueFault("window 1;", 9, 1);
        dueFault("window 1; ", 10, 1);
        dueFault(";window 1", 0, 1);
        dueFault(" ;", 1, 1);
        dueFault("window 1;;pace 1", 9, 1);
        dueFault("window 1 pace 1", 9, 1);
        dueFault("window 1 2", 9, 1);
        dueFault("window 1.", 8, 1);
        dueFault("windows 1", 0, 1);
        dueFault("Window 1", 0, 1);
        dueFault("7", 0, 1);
        dueFault("hold top 1 2 3", 5, 1);
        dueFault("foe -1 2", 4, 1);
        dueFault("foe 1,2", 5, 1);
        dueFault("foe 1\t2", 5, 1);
        dueFault("foe 1 2\u0000", 7, 1);
        dueFault("foe 1 2\u00e9", 7, 1);
        dueFault("request 1 2 3", 0, 1);
        dueFault("post top 1 2 3;hol", 15, 1);
        dueFault("wait 1 wait 2", 7, 1);
        dueFault("foe 1 2z", 7, 1);
    }

    private static void tellingNumbersNotAsTold() {
        dueFault("post 0 1 2 3", 5, 2);
        dueFault("post top 1 2 3;post 1 1 2 3", 20, 2);
        dueFault("post top 1 2 10000", 13, 2);
        dueFault("post top 99999999999999999999 2 3", 9, 2);
        dueFault("post top 1 2 3;hold 1 0 0 0", 20, 2);
        dueFault("hold 0 0 0 0;post top 1 2 3", 5, 2);
        dueFault("post top 1 2 3;hold 0 16 0 0", 22, 2);
        dueFault("post top 1 2 3;hold 0 15 1000 1000", 25, 2);
        dueFault("post top 1 2 3;hold 0 15 9 8", 27, 2);
        dueFault("away 0 5 4", 9, 2);
        dueFault("away 0 5 1000", 9, 2);
        dueFault("away 16 5 6", 5, 2);
        dueFault("stand 1 1 0 0 0", 8, 2);
        dueFault("stand 1 16 0 0 0", 8, 2);
        dueFault("stand 1 2 3 2 0", 12, 2);
        dueFault("stand 1 2 3 3 10000", 14, 2);
        dueFault("foe 16 0", 4, 2);
        dueFault("foe 15 10", 7, 2);
        dueFault("window 100", 7, 2);
        dueFault("pace 10", 5, 2);
        dueFault("wait 31", 5, 2);
        dueFault("window 4294967296", 7, 2);
        dueFault("away 0 5 4 x", 9, 2);
    }

    private static void tellingTooMany() {
        dueFault("wait 1;wait 2", 7, 3);
        dueFault("pace 1;wait 1;pace x", 14, 3);
        dueFault("window 1; window 1", 10, 3);
        dueFault("post top 0 0 0" + ";post0 0 0 0".repeat(12), 14 + 12 * 11 + 1, 3);
        dueFault("post top 0 0 0" + ";hold0 0 0 0".repeat(25), 14 + 12 * 24 + 1, 3);
        dueFault("away0 0 0" + ";away0 0 0".repeat(24), 9 + 10 * 23 + 1, 3);
        dueFault("stand0 1 0 0 0" + ";stand0 1 0 0 0".repeat(24), 14 + 15 * 23 + 1, 3);
        dueFault("foe0 0" + ";foe0 0".repeat(16), 6 + 7 * 15 + 1, 3);
        due("12 posts", told("post top 0 0 0" + ";post0 0 0 0".repeat(11)).count(0), 12);
        due("24 holds", told("post top 0 0 0" + ";hold0 0 0 0".repeat(24)).count(1), 24);
        due("24 aways", told("away0 0 0" + ";away0 0 0".repeat(23)).count(2), 24);
        due("24 stands", told("stand0 1 0 0 0" + ";stand0 1 0 0 0".repeat(23)).count(3), 24);
        due("16 foes", told("foe0 0" + ";foe0 0".repeat(15)).count(4), 16);
    }

    private static void tellingFaultKeepsAll() {
        ApprovalRoutes x = told(SMALL);
        x.request(1, 1, 0, 5, 5);
        due("a fault", tell(x, "foe 1 2;x"), -2 - (8 * 8 + 1));
        due("requests stay", x.count(8), 1);
        due("acts stay", x.undo(), 0);
        dueText("the order stays", x, SMALL);
    }

    private static void requesting() {
        ApprovalRoutes x = told(SMALL);
        int[][] bad = {
            {-1, 0, 0, 1, 0}, {16, 0, 0, 1, 0}, {0, -1, 0, 1, 0}, {0, 2, 0, 1, 0}, {0, 0, -1, 1, 0}, {0, 0, 30, 1, 0},
            {0, 0, 0, 0, 0}, {0, 0, 0, 10000, 0}, {0, 0, 0, 1, -1}, {0, 0, 0, 1, 1000}, {LOW, HIGH, LOW, HIGH, LOW},
        };
        for (int[] b : bad) {
            due("request of " + java.util.Arrays.toString(b), x.request(b[0], b[1], b[2], b[3], b[4]), -1);
        }
        due("nothing happens", x.count(8) + x.count(11), 0);
        due("the first", x.request(15, 1, 29, 9999, 999), 0);
        int[] is = {15, 1, 9, 2, 9999, 999, -2, 9999, 0};
        for (int what = 0; what < is.length; what++) {
            due("asked(0, " + what + ")", x.asked(0, what), is[what]);
        }
        for (int k = 1; k < 40; k++) {
            due("the next", x.request(0, 0, 10, 1, 0), k);
        }
        due("there are 40", x.request(0, 0, 0, 1, 0), -2);
        due("NONE ahead of -2", x.request(0, 0, 0, 0, 0), -1);
        due("still 40", x.count(8), 40);
    }

    private static void recalling() {
        ApprovalRoutes x = told(SMALL);
        x.request(1, 1, 0, 80, 5);
        x.request(1, 1, 1, 400, 5);
        x.request(1, 0, 2, 10, 5);
        due("approved on that day", x.recall(0, 5), -3);
        due("approved ahead of it", x.recall(0, 6), -3);
        due("ahead of its day", x.recall(0, 4), -1);
        due("no such request", x.recall(3, 5), -1);
        due("below", x.recall(-1, 5), -1);
        due("no day", x.recall(2, 1000), -1);
        due("no day below", x.recall(2, -1), -1);
        due("nothing happened", x.count(9) + 10 * x.count(11), 30);
        due("ahead of the day on which it is approved (6)", x.recall(1, 5), 1);
        due("it is already", x.recall(1, 5), -2);
        due("it is already, though late", x.recall(1, 900), -2);
        due("it is, but that is no day", x.recall(1, 4), -1);
        due("a stuck one, any day", x.recall(2, 999), 1);
        due("the day", x.asked(2, 6), 999);
        due("two", x.count(9), 2);
    }

    private static void amending() {
        ApprovalRoutes x = told(SMALL);
        x.request(1, 1, 1, 80, 5);
        due("approved", x.amend(0, 5, 7), -3);
        x.request(2, 1, 0, 400, 5);
        due("no amount", x.amend(1, 0, 5), -1);
        due("amount too high", x.amend(1, 10000, 5), -1);
        due("ahead of its day", x.amend(1, 5, 4), -1);
        due("no day", x.amend(1, 5, 1000), -1);
        due("no request", x.amend(2, 5, 5), -1);
        due("approved on the day", x.amend(1, 5, 6), -3);
        due("one more", x.amend(1, 7, 5), 2);
        due("recalled", x.asked(1, 6), 5);
        int[] is = {2, 1, 0, 0, 7, 5, -2, 7, 0};
        for (int what = 0; what < is.length; what++) {
            due("asked(2, " + what + ")", x.asked(2, what), is[what]);
        }
        due("it is already", x.amend(1, 7, 5), -2);
        due("one act", x.undo(), 2);
        due("the recall goes with it", x.asked(1, 6), -2);
        due("and the request", x.count(8), 2);
        for (int k = 2; k < 40; k++) {
            x.request(9, 0, 2, 1, k);
        }
        due("there are 40", x.amend(1, 7, 5), -2);
        due("40 ahead of -3", x.amend(0, 5, 7), -2);
        due("NONE ahead of -2", x.amend(1, 0, 5), -1);
        due("not recalled", x.asked(1, 6), -2);
    }

    private static void holding() {
        ApprovalRoutes x = told(SMALL);
        due("no post", x.hold(2, 0, 0, 0), -1);
        due("no post below", x.hold(-1, 0, 0, 0), -1);
        due("no person", x.hold(0, 16, 0, 0), -1);
        due("no person below", x.hold(0, -1, 0, 0), -1);
        due("no day", x.hold(0, 0, -1, 0), -1);
        due("no day above", x.hold(0, 0, 0, 1000), -1);
        due("second below the first", x.hold(0, 0, 1, 0), -1);
        due("behind the others", x.hold(1, 9, 99, 999), 2);
        due("the first hold counts", x.decides(1, 99, -1, 0), 3);
        due("then the next", x.decides(1, 100, -1, 0), 9);
        for (int k = 3; k < 24; k++) {
            due("more", x.hold(0, 0, k, k), k);
        }
        due("there are 24", x.hold(0, 0, 0, 0), -2);
        due("NONE ahead of it", x.hold(2, 0, 0, 0), -1);
    }

    private static void beingAway() {
        ApprovalRoutes x = told(SMALL);
        due("no person", x.away(16, 0, 0), -1);
        due("no person below", x.away(-1, 0, 0), -1);
        due("no day", x.away(0, 1000, 1000), -1);
        due("no day below", x.away(0, -1, 0), -1);
        due("second below the first", x.away(0, 1, 0), -1);
        due("behind the others", x.away(7, 30, 31), 1);
        due("ahead of it", x.decides(0, 29, -1, 0), 7);
        due("its first day", x.decides(0, 30, -1, 0), -5);
        due("its last day", x.decides(0, 31, -1, 0), -5);
        due("behind it", x.decides(0, 32, -1, 0), 7);
        for (int k = 2; k < 24; k++) {
            due("more", x.away(0, 0, 999), k);
        }
        due("there are 24", x.away(0, 0, 0), -2);
        due("NONE ahead of it", x.away(0, 1, 0), -1);
    }

    private static void standing() {
        ApprovalRoutes x = told(SMALL);
        due("no giver", x.stand(16, 0, 0, 0, 0), -1);
        due("no taker", x.stand(0, 16, 0, 0, 0), -1);
        due("no giver below", x.stand(-1, 0, 0, 0, 0), -1);
        due("no taker below", x.stand(0, -1, 0, 0, 0), -1);
        due("the same", x.stand(3, 3, 0, 0, 0), -1);
        due("second below the first", x.stand(3, 4, 1, 0, 0), -1);
        due("no day", x.stand(3, 4, 0, 1000, 0), -1);
        due("no cap", x.stand(3, 4, 0, 0, -1), -1);
        due("no cap above", x.stand(3, 4, 0, 0, 10000), -1);
        due("behind the others", x.stand(3, 5, 14, 16, 9999), 1);
        due("the first one is asked first", x.decides(1, 15, -1, 0), 4);
        due("then the next", x.decides(1, 16, -1, 0), 5);
        due("nobody behind it", x.decides(1, 17, -1, 0), -5);
        for (int k = 2; k < 24; k++) {
            due("more", x.stand(0, 1, 0, 0, 0), k);
        }
        due("there are 24", x.stand(0, 1, 0, 0, 0), -2);
        due("NONE ahead of it", x.stand(1, 1, 0, 0, 0), -1);
    }

    private static void foes() {
        ApprovalRoutes x = told(SMALL);
        due("no person", x.foe(16, 0), -1);
        due("no person below", x.foe(-1, 0), -1);
        due("no vendor", x.foe(0, 10), -1);
        due("no vendor below", x.foe(0, -1), -1);
        due("that one is", x.foe(7, 2), -2);
        due("another vendor", x.foe(7, 3), 1);
        due("another person", x.foe(3, 2), 2);
        due("does not decide", x.decides(0, 0, -1, 3), -7);
        due("does for others", x.decides(0, 0, -1, 4), 7);
        for (int k = 3; k < 16; k++) {
            due("more", x.foe(k, 9), k);
        }
        due("there are 16", x.foe(0, 0), -2);
        due("NONE ahead of it", x.foe(0, 10), -1);
    }

    private static void dropping() {
        ApprovalRoutes x = told("post top 1 2 3;hold 0 1 2 3;hold 0 4 5 6;hold 0 7 8 9;away 1 2 3;stand 1 2 3 4 5;foe 1 2;foe 3 4");
        due("no kind", x.drop(4, 0), -1);
        due("no kind below", x.drop(-1, 0), -1);
        due("none such", x.drop(0, 3), -1);
        due("none below", x.drop(0, -1), -1);
        due("lowest", x.drop(LOW, LOW), -1);
        due("highest", x.drop(HIGH, HIGH), -1);
        due("no acts", x.count(11), 0);
        due("the middle one", x.drop(0, 1), 2);
        dueText("those behind it move", x, "post top 1 2 3;hold 0 1 2 3;hold 0 7 8 9;away 1 2 3;stand 1 2 3 4 5;foe 1 2;foe 3 4");
        due("an away", x.drop(1, 0), 0);
        due("a stand", x.drop(2, 0), 0);
        due("a foe", x.drop(3, 0), 1);
        due("it is gone", x.drop(3, 1), -1);
        dueText("what is left", x, "post top 1 2 3;hold 0 1 2 3;hold 0 7 8 9;foe 3 4");
        due("undone", x.undo(), 3);
        dueText("as it was", x, "post top 1 2 3;hold 0 1 2 3;hold 0 7 8 9;foe 1 2;foe 3 4");
    }

    private static void limits() {
        ApprovalRoutes x = told(SMALL);
        due("no post", x.limit(2, 0, 1), -1);
        due("no post below", x.limit(-1, 0, 1), -1);
        due("no kind", x.limit(0, 3, 1), -1);
        due("no kind below", x.limit(0, -1, 1), -1);
        due("no limit", x.limit(0, 0, -1), -1);
        due("no limit above", x.limit(0, 0, 10000), -1);
        due("it is so", x.limit(1, 2, 20), -2);
        due("no acts", x.count(11), 0);
        due("what it was", x.limit(1, 2, 9999), 20);
        due("told", x.post(1, 3), 9999);
        due("down to 0", x.limit(1, 2, 0), 9999);
        due("others stay", x.post(1, 2), 50);
        due("two acts", x.count(11), 2);
    }

    private static void setting() {
        ApprovalRoutes x = told(SMALL);
        due("no such", x.set(3, 0), -1);
        due("no such below", x.set(-1, 0), -1);
        due("lowest", x.set(LOW, 0), -1);
        due("window too high", x.set(0, 100), -1);
        due("pace too high", x.set(1, 10), -1);
        due("wait too high", x.set(2, 31), -1);
        due("below 0", x.set(0, -1), -1);
        due("it is so", x.set(0, 3), -2);
        due("window", x.set(0, 99), 3);
        due("pace", x.set(1, 9), 1);
        due("wait", x.set(2, 30), 2);
        due("window told", x.count(5), 99);
        due("pace told", x.count(6), 9);
        due("wait told", x.count(7), 30);
        due("pace 0", x.set(1, 0), 9);
        due("four acts", x.count(11), 4);
    }

    private static void undoing() {
        ApprovalRoutes x = told(SMALL);
        due("none", x.undo(), -1);
        x.request(1, 1, 2, 400, 5);
        x.recall(0, 5);
        x.hold(0, 1, 1, 1);
        x.away(1, 1, 1);
        x.stand(1, 2, 1, 1, 1);
        x.foe(1, 1);
        x.drop(0, 0);
        x.limit(0, 0, 9);
        x.set(2, 9);
        due("nine acts", x.count(11), 9);
        due("a limit that is so is no act", x.limit(0, 0, 9), -2);
        due("keeping is no act", x.keep(1) + 10 * x.count(11), 91);
        for (int k = 8; k >= 0; k--) {
            due("undone", x.undo(), k);
        }
        due("no more", x.undo(), -1);
        dueText("all is as it was", x, SMALL);
        due("no requests", x.count(8), 0);
        for (int k = 0; k < 13; k++) {
            x.set(0, 10 + k);
        }
        due("the last ten", x.count(11), 10);
        for (int k = 9; k >= 0; k--) {
            due("undone", x.undo(), k);
            due("window", x.count(5), 12 + k);
        }
        due("not the eleventh", x.undo(), -1);
        x.set(0, 50);
        x.undo();
        x.set(0, 60);
        due("behind an undone one", x.undo(), 0);
        due("as it was", x.count(5), 12);
    }

    private static void keeping() {
        ApprovalRoutes x = told(SMALL);
        due("no shelf", x.keep(2), -1);
        due("no shelf below", x.keep(-1), -1);
        due("nothing kept", x.count(13), 0);
        due("no requests", x.keep(1), 0);
        due("a shelf", x.count(13), 2);
        x.request(1, 1, 0, 5, 5);
        due("one request", x.keep(0), 1);
        due("both", x.count(13), 3);
        due("undoing does not reach it", x.undo(), 0);
        due("it has its request", x.back(0), 1);
        due("kept anew", x.keep(1), 1);
        due("in place of what was there", x.back(1), 1);
    }

    private static void goingBack() {
        ApprovalRoutes x = told(SMALL);
        due("no shelf", x.back(2), -1);
        due("no shelf below", x.back(-1), -1);
        due("nothing is kept", x.back(0), -2);
        x.keep(0);
        due("nothing on the other", x.back(1), -2);
        feed(x, "foe 1 2");
        x.request(1, 1, 0, 5, 5);
        x.set(0, 9);
        x.drop(0, 0);
        due("as it was kept", x.back(0), 0);
        dueText("the order", x, SMALL);
        due("no requests", x.count(8), 0);
        due("nothing can be undone", x.undo(), -1);
        due("the tape stays", x.count(12), 7);
        due("the shelf stays", x.back(0), 0);
        x.request(1, 1, 0, 5, 5);
        due("what comes behind does not reach the shelf", x.back(0), 0);
    }

    private static void posts() {
        ApprovalRoutes x = told("post top 1 2 3;post 0 4 5 6;post 0 7 8 9;post 2 10 11 12;post top 0 0 0");
        int[][] is = {{-2, 1, 2, 3, 0, 2}, {0, 4, 5, 6, 1, 0}, {0, 7, 8, 9, 1, 1}, {2, 10, 11, 12, 2, 0}, {-2, 0, 0, 0, 0, 0}};
        for (int post = 0; post < is.length; post++) {
            for (int what = 0; what < 6; what++) {
                due("post(" + post + ", " + what + ")", x.post(post, what), is[post][what]);
            }
        }
        due("no post", x.post(5, 0), -1);
        due("no post below", x.post(-1, 5), -1);
        due("no such", x.post(0, 6), -1);
        due("no such below", x.post(0, -1), -1);
        due("lowest", x.post(LOW, LOW), -1);
    }

    private static void entries() {
        ApprovalRoutes x = told("post top 1 2 3;hold 0 1 2 3;away 4 5 6;away 7 8 9;stand 1 2 3 4 5;foe 6 7");
        int[][] is = {{0, 1, 2, 3}, {7, 8, 9}, {1, 2, 3, 4, 5}, {6, 7}};
        int[] k = {0, 1, 0, 0};
        for (int kind = 0; kind < 4; kind++) {
            for (int what = 0; what < is[kind].length; what++) {
                due("entry(" + kind + ", " + k[kind] + ", " + what + ")", x.entry(kind, k[kind], what), is[kind][what]);
            }
            due("what too high", x.entry(kind, 0, is[kind].length), -1);
            due("what below", x.entry(kind, 0, -1), -1);
            due("k too high", x.entry(kind, k[kind] + 1, 0), -1);
            due("k below", x.entry(kind, -1, 0), -1);
        }
        due("no kind", x.entry(4, 0, 0), -1);
        due("no kind below", x.entry(-1, 0, 0), -1);
    }

    private static void askedFor() {
        ApprovalRoutes x = told(SMALL);
        x.request(1, 1, 22, 400, 5);
        x.request(1, 0, 22, 7, 8);
        int[] is = {1, 0, 2, 2, 7, 8, -2, 407, 1};
        for (int what = 0; what < is.length; what++) {
            due("asked(1, " + what + ")", x.asked(1, what), is[what]);
        }
        x.recall(0, 9);
        due("recalled on", x.asked(0, 6), 9);
        due("behind its day: joined still", x.asked(1, 7), 407);
        due("no such", x.asked(0, 9), -1);
        due("no such below", x.asked(0, -1), -1);
        due("no request", x.asked(2, 0), -1);
        due("no request below", x.asked(-1, 0), -1);
    }

    private static void joinedOnes() {
        ApprovalRoutes x = told("post top 1 1 1;window 3");
        x.request(1, 0, 5, 100, 10);
        x.request(2, 0, 5, 100, 10);
        x.request(1, 0, 6, 100, 10);
        x.request(1, 0, 15, 100, 10);
        x.request(1, 0, 5, 100, 16);
        x.request(1, 0, 5, 100, 20);
        x.request(1, 0, 5, 100, 13);
        due("none ahead of the first", x.joined(0), 0);
        due("other person, vendor, kind", x.joined(3), 0);
        due("too far", x.joined(4), 0);
        due("too far from 16", x.joined(5), 0);
        due("3 days each way, not 7", x.joined(6), 1 | 1 << 4);
        x.request(1, 0, 5, 100, 19);
        due("by one another", x.joined(7), 1 | 1 << 4 | 1 << 5 | 1 << 6);
        due("together", x.asked(7, 7), 500);
        due("later ones do not", x.joined(4), 0);
        x.set(0, 2);
        due("a lesser window", x.joined(7), 1 << 5);
        x.set(0, 0);
        due("the same day alone", x.joined(7), 0);
        x.request(1, 0, 5, 100, 19);
        due("the same day", x.joined(8), 1 << 7);
        x.set(0, 3);
        x.recall(6, 19);
        due("recalled up to its day", x.joined(8), 1 << 4 | 1 << 5 | 1 << 7);
        x.undo();
        x.recall(6, 20);
        due("recalled behind its day", x.joined(8), 1 | 1 << 4 | 1 << 5 | 1 << 6 | 1 << 7);
        due("no request", x.joined(9), -1);
        due("no request below", x.joined(-1), -1);
        ApprovalRoutes y = told("post top 1 1 1");
        for (int k = 0; k < 40; k++) {
            y.request(1, 0, 5, 9999, 10);
        }
        due("39 bits", y.joined(39), (1L << 39) - 1);
        due("40 amounts", y.asked(39, 7), 399960);
    }

    private static ApprovalRoutes withRequests() {
        ApprovalRoutes x = told(SMALL);
        x.request(1, 1, 0, 80, 5);
        x.request(1, 1, 0, 50, 7);
        x.request(2, 1, 1, 60, 12);
        x.request(2, 1, 1, 70, 16);
        x.request(3, 1, 0, 10, 0);
        x.request(1, 0, 2, 10, 1);
        x.request(1, 1, 10, 51, 98);
        x.request(1, 1, 3, 10, 999);
        return x;
    }

    private static void steps() {
        ApprovalRoutes x = withRequests();
        dueSteps(x, 0, row(1, 5, 3, 100, 0, 0));
        dueSteps(x, 1, row(1, 7, 3, 100, 1, 0), row(0, 8, 7, 500, 0, 0));
        dueSteps(x, 2, row(1, 12, 4, 60, 0, 1));
        dueSteps(x, 3, row(1, 18, -2, -2, 3, -2), row(0, 19, 7, 500, 0, 0));
        dueSteps(x, 4, row(1, 2, -2, -2, 4, -2), row(0, 3, 7, 500, 0, 0));
        dueSteps(x, 5, row(0, 3, -2, -2, 5, -2));
        dueSteps(x, 6, row(1, 98, 3, 50, 1, 0), row(0, 99, 7, 0, 1, 0));
        dueSteps(x, 7, row(1, 999, -2, -2, 2, -2));
        due("k too high", x.step(0, 1, 0), -1);
        due("k below NONE", x.step(0, -2, 0), -1);
        due("NONE with another", x.step(0, -1, 1), -1);
        due("NONE with one below", x.step(0, -1, -1), -1);
        due("no such", x.step(0, 0, 6), -1);
        due("no such below", x.step(0, 0, -1), -1);
        due("no request", x.step(8, -1, 0), -1);
        due("no request below", x.step(-1, -1, 0), -1);
        x.set(2, 4);
        due("waits till the first day of someone", x.request(2, 1, 14, 50, 17), 8);
        dueSteps(x, 8, row(1, 21, 3, 50, 0, 0));
        x.set(1, 0);
        due("no pace", x.step(6, 1, 1), 98);
        x.set(1, 9);
        due("the day of the upper post is above 999", x.request(2, 1, 0, 50, 991), 9);
        dueSteps(x, 9, row(1, 995, -2, -2, 2, -2));
        x.limit(1, 0, 5);
        dueSteps(x, 0, row(1, 5, 3, 5, 1, 0), row(0, 14, 7, 500, 0, 0));
        x.recall(0, 6);
        dueSteps(x, 0, row(1, 5, 3, 5, 1, 0), row(0, 14, 7, 500, 0, 0));
        reasonOfTheFirstDay();
    }

    private static void reasonOfTheFirstDay() {
        ApprovalRoutes x = told("post top 9 9 9;hold 0 1 1 1;hold 0 2 2 2;away 1 0 9;foe 2 0");
        x.request(3, 0, 0, 1, 0);
        x.request(3, 0, 0, 1, 1);
        x.request(3, 0, 0, 1, 2);
        dueSteps(x, 0, row(0, 2, -2, -2, 2, -2));
        dueSteps(x, 1, row(0, 3, -2, -2, 3, -2));
        dueSteps(x, 2, row(0, 4, -2, -2, 5, -2));
    }

    private static void chains() {
        ApprovalRoutes x = told("post top 900 0 0;hold 0 1 0 9;away 1 0 9;away 2 0 9;away 4 0 9;"
                + "stand 1 2 0 9 800;stand 2 4 0 9 10;stand 1 3 0 9 700;stand 4 1 0 9 5;stand 2 5 0 9 850");
        x.request(9, 0, 0, 800, 3);
        dueSteps(x, 0, row(0, 3, 5, 800, 0, 2));
        due("the holder", x.chain(0, 0, 0), 1);
        due("the next", x.chain(0, 0, 1), 2);
        due("who decides", x.chain(0, 0, 2), 5);
        due("there is none", x.chain(0, 0, 3), -2);
        due("there is none so far", x.chain(0, 0, HIGH), -2);
        due("i below 0", x.chain(0, 0, -1), -1);
        due("no such step", x.chain(0, 1, 0), -1);
        due("no step below", x.chain(0, -1, 0), -1);
        due("no request", x.chain(1, 0, 0), -1);
        due("no request below", x.chain(-1, 0, 0), -1);
        x.foe(5, 0);
        due("then the other one of the holder", x.chain(0, 0, 1), 3);
        due("with its cap", x.step(0, 0, 3), 700);
        x.foe(3, 0);
        due("a step of nobody", x.chain(0, 0, 0), -2);
        due("its reason", x.step(0, 0, 4), 3);
    }

    private static void endings() {
        ApprovalRoutes x = withRequests();
        int[][] is = {{1, 5, 3, 1}, {1, 8, 7, 0}, {1, 12, 4, 1}, {1, 19, 7, 0}, {1, 3, 7, 0}, {2, 3, -2, 0}, {2, 99, -2, 0}, {2, 999, -2, 1}};
        for (int request = 0; request < is.length; request++) {
            for (int what = 0; what < 4; what++) {
                due("ends(" + request + ", " + what + ")", x.ends(request, what), is[request][what]);
            }
        }
        due("no such", x.ends(0, 4), -1);
        due("no such below", x.ends(0, -1), -1);
        due("no request", x.ends(8, 0), -1);
        due("no request below", x.ends(-1, 0), -1);
        x.recall(1, 7);
        int[] recalled = {3, 7, -2, 0};
        for (int what = 0; what < 4; what++) {
            due("recalled: ends(1, " + what + ")", x.ends(1, what), recalled[what]);
        }
        x.limit(1, 0, 0);
        due("as limits are now", x.ends(0, 1), 6);
    }

    private static void deciding() {
        ApprovalRoutes x = told(SMALL);
        due("the holder", x.decides(1, 0, 1, 0), 3);
        due("by none of these", x.decides(1, 0, -1, 0), 3);
        due("its own", x.decides(1, 0, 3, 0), -6);
        due("own ahead of away", x.decides(1, 12, 3, 0), -6);
        due("away, one stands in", x.decides(1, 12, 1, 0), 4);
        due("away, the one who stands in made it", x.decides(1, 12, 4, 0), -5);
        due("away, nobody stands in", x.decides(1, 18, 1, 0), -5);
        due("no holder", x.decides(1, 100, 1, 0), -4);
        due("a foe", x.decides(0, 0, 1, 22), -7);
        due("own ahead of foe", x.decides(0, 0, 7, 2), -6);
        x.away(7, 0, 0);
        due("away ahead of foe", x.decides(0, 0, 1, 2), -5);
        due("no post", x.decides(2, 0, 1, 0), -1);
        due("no post below", x.decides(-1, 0, 1, 0), -1);
        due("no day", x.decides(0, 1000, 1, 0), -1);
        due("no day below", x.decides(0, -1, 1, 0), -1);
        due("no person", x.decides(0, 0, 16, 0), -1);
        due("no person below NONE", x.decides(0, 0, -2, 0), -1);
        due("no vendor and kind", x.decides(0, 0, 1, 30), -1);
        due("no vendor and kind below", x.decides(0, 0, 1, -1), -1);
        ringsOfStandsAreBroken();
    }

    private static void ringsOfStandsAreBroken() {
        ApprovalRoutes x = told("post top 9 9 9;hold 0 1 0 9;away 1 0 9;away 2 0 9;stand 1 2 0 9 9;stand 2 1 0 9 9");
        due("a ring", x.decides(0, 0, -1, 0), -5);
        x.stand(2, 3, 0, 9, 9);
        due("out of the ring", x.decides(0, 0, -1, 0), 3);
        due("whoever stands in for the one who made it is not asked for it", x.decides(0, 0, 2, 0), -5);
        x.stand(1, 3, 0, 9, 9);
        due("but may be asked for another", x.decides(0, 0, 2, 0), 3);
        ApprovalRoutes y = told("post top 9 9 9;hold 0 0 0 9" + ";away 0 0 9");
        for (int person = 1; person < 16; person++) {
            y.stand(person - 1, person, 0, 9, 20 - person);
            y.away(person, 0, 8);
        }
        due("all sixteen are away", y.decides(0, 8, -1, 0), -5);
        due("the next one is there", y.decides(0, 9, -1, 0), 1);
        y.foe(15, 0);
        y.drop(1, 15);
        due("the last is a foe", y.decides(0, 0, -1, 0), -5);
        due("the last of sixteen", y.decides(0, 0, -1, 1), 15);
        y.request(9, 0, 1, 1, 0);
        due("the one who made it breaks the line", y.ends(0, 0), 2);
        y.drop(1, 0);
        y.request(15, 0, 1, 1, 0);
        due("the holder is there", y.ends(1, 0), 1);
    }

    private static void powers() {
        ApprovalRoutes x = told(SMALL);
        due("of its post", x.power(3, 0, 0), 100);
        due("of its post, another kind", x.power(3, 0, 2), 20);
        due("away", x.power(3, 12, 0), -2);
        due("who stands in", x.power(4, 12, 0), 60);
        due("who stands in, with less than its cap", x.power(4, 12, 2), 20);
        due("who would stand in", x.power(4, 9, 0), -2);
        due("a foe of some vendor", x.power(7, 0, 0), 500);
        due("a limit of 0", x.power(7, 0, 1), 0);
        x.hold(0, 3, 0, 99);
        due("not the first hold", x.power(3, 0, 0), 100);
        x.drop(0, 1);
        due("the greatest of two", x.power(3, 0, 0), 500);
        due("nobody", x.power(0, 0, 0), -2);
        due("no person", x.power(16, 0, 0), -1);
        due("no person below", x.power(-1, 0, 0), -1);
        due("no day", x.power(0, 1000, 0), -1);
        due("no day below", x.power(0, -1, 0), -1);
        due("no kind", x.power(0, 0, 3), -1);
        due("no kind below", x.power(0, 0, -1), -1);
    }

    private static void rings() {
        ApprovalRoutes x = told("stand 1 2 0 9 0;stand 2 3 0 9 0;stand 3 1 5 9 0;stand 3 4 0 9 0;stand 5 1 0 9 0;stand 15 0 9 9 0;stand 0 15 9 10 0");
        due("a line", x.ring(4), 0);
        due("a ring, not who hangs on it", x.ring(5), 0b1110);
        due("two rings", x.ring(9), 0b1110 | 1 | 1 << 15);
        due("one way alone", x.ring(10), 0);
        due("no day", x.ring(1000), -1);
        due("no day below", x.ring(-1), -1);
        due("no stands", new ApprovalRoutes().ring(0), 0);
    }

    private static void splits() {
        ApprovalRoutes x = withRequests();
        due("the first of two", x.split(0), 0);
        due("behind more steps", x.split(1), 1);
        due("alone", x.split(3), 0);
        due("stuck", x.split(5), 0);
        x.recall(1, 7);
        due("recalled or not", x.split(1), 1);
        due("no request", x.split(8), -1);
        due("no request below", x.split(-1), -1);
        x.request(6, 1, 9, 300, 40);
        due("as many steps", x.split(8), 0);
        x.request(6, 1, 9, 150, 40);
        due("joined, but as many steps", x.split(9), 0);
        x.request(6, 1, 9, 60, 40);
        due("not approved by its whole", x.ends(10, 0), 2);
        due("so it is split", x.split(10), 1);
        x.request(6, 1, 9, 501, 40);
        due("not approved alone", x.split(11), 0);
    }

    private static void withoutOne() {
        ApprovalRoutes x = withRequests();
        due("its approver: still", x.without(0, 3, 0), 1);
        due("by the one who stands in? its cap is 60", x.without(0, 3, 1), 6);
        due("by the upper one", x.without(0, 3, 2), 7);
        due("another", x.without(0, 9, 2), 3);
        due("another's day", x.without(0, 9, 1), 5);
        due("stuck", x.without(1, 7, 0), 2);
        due("stuck, its last day", x.without(1, 7, 1), 10);
        due("stuck, nobody", x.without(1, 7, 2), -2);
        x.recall(1, 7);
        due("recalled or not", x.without(1, 9, 0), 1);
        due("who stands in", x.without(2, 4, 1), 15);
        due("no such", x.without(0, 3, 3), -1);
        due("no such below", x.without(0, 3, -1), -1);
        due("no person", x.without(0, 16, 0), -1);
        due("no person below", x.without(0, -1, 0), -1);
        due("no request", x.without(8, 3, 0), -1);
        due("no request below", x.without(-1, 3, 0), -1);
        due("nothing has changed", x.ends(0, 2), 3);
        due("no act", x.count(2), 1);
    }

    private static void cures() {
        ApprovalRoutes x = told(SMALL);
        x.request(1, 1, 0, 80, 16);
        due("the away", x.cure(0, 0), 0);
        due("the day", x.cure(0, 1), 16);
        x.away(7, 0, 999);
        x.away(9, 0, 999);
        due("soonest", x.cure(0, 0), 0);
        x.request(1, 1, 3, 200, 16);
        due("the one above", x.cure(1, 0), 1);
        due("its day", x.cure(1, 1), 19);
        x.away(7, 20, 30);
        due("of two that bar it none alone, but the wait is over by then", x.cure(1, 0), 1);
        x.away(7, 0, 999);
        due("two bar it", x.cure(1, 0), -2);
        due("two bar it, the day", x.cure(1, 1), -2);
        x.request(1, 1, 4, 10, 30);
        due("approved anyhow: the first", x.cure(2, 0), 0);
        due("approved anyhow: its day", x.cure(2, 1), 30);
        due("no such", x.cure(0, 2), -1);
        due("no such below", x.cure(0, -1), -1);
        due("no request", x.cure(3, 0), -1);
        due("no request below", x.cure(-1, 0), -1);
        x.recall(0, 16);
        due("recalled or not", x.cure(0, 1), 16);
        ApprovalRoutes y = told("post top 9 9 9;hold 0 1 0 999");
        y.request(2, 0, 0, 1, 0);
        due("no away", y.cure(0, 0), -2);
        due("NONE ahead of -2", y.cure(0, 2), -1);
    }

    private static void mosts() {
        ApprovalRoutes x = withRequests();
        due("its own post", x.most(0, 0), 100);
        due("or the one above", x.most(0, 1), 500);
        due("there are not so many above", x.most(0, 2), -1);
        due("below", x.most(0, -1), -1);
        due("with what is joined", x.most(1, 0), 20);
        due("with what is joined, above", x.most(1, 1), 420);
        due("who stands in", x.most(2, 0), 60);
        due("nobody there", x.most(3, 0), -2);
        due("nobody there, one above", x.most(3, 1), 500);
        due("stuck", x.most(5, 0), -2);
        due("limits of 50 and 0", x.most(6, 1), 50);
        due("no request", x.most(8, 0), -1);
        due("no request below", x.most(-1, 0), -1);
        x.limit(1, 0, 9999);
        due("9999 less 80", x.most(1, 0), 9919);
        due("9999", x.most(0, 1), 9999);
        x.limit(1, 0, 80);
        due("nothing is left", x.most(1, 0), -2);
        x.limit(1, 0, 81);
        due("1 is left", x.most(1, 0), 1);
        x.recall(1, 7);
        due("recalled or not", x.most(1, 0), 1);
    }

    private static void loads() {
        ApprovalRoutes x = withRequests();
        due("all of 3", x.load(3, 0), 3);
        due("approved by 3", x.load(3, 1), 1);
        due("3 stands in", x.load(3, 2), 0);
        due("all of 4", x.load(4, 0), 1);
        due("4 stands in", x.load(4, 2), 1);
        due("all of 7", x.load(7, 0), 4);
        due("approved by 7", x.load(7, 1), 3);
        due("all of 0", x.load(0, 0), 0);
        x.recall(1, 7);
        due("not of recalled ones", x.load(7, 0), 3);
        due("not of recalled ones, 3", x.load(3, 0), 2);
        due("no such", x.load(3, 3), -1);
        due("no such below", x.load(3, -1), -1);
        due("no person", x.load(16, 0), -1);
        due("no person below", x.load(-1, 0), -1);
    }

    private static void busiestOnes() {
        ApprovalRoutes x = withRequests();
        due("which", x.busiest(0), 7);
        due("how many", x.busiest(1), 4);
        x.recall(6, 98);
        x.request(2, 1, 5, 1, 0);
        due("of several the least", x.busiest(0), 3);
        due("how many of several", x.busiest(1), 3);
        due("no such", x.busiest(2), -1);
        due("no such below", x.busiest(-1), -1);
        ApprovalRoutes y = told("post top 9 9 9");
        y.request(2, 0, 0, 1, 0);
        due("no such steps", y.busiest(0), -2);
        due("no such steps, how many", y.busiest(1), -2);
        due("NONE ahead of -2", y.busiest(2), -1);
    }

    private static void approvedOnes() {
        ApprovalRoutes x = withRequests();
        due("how many", x.approved(0), 5);
        due("amounts", x.approved(1), 270);
        due("most days", x.approved(2), 3);
        due("of several the first", x.approved(3), 3);
        due("no such", x.approved(4), -1);
        due("no such below", x.approved(-1), -1);
        x.recall(3, 18);
        due("not the recalled one", x.approved(0), 4);
        due("not its amount", x.approved(1), 200);
        due("the other one", x.approved(3), 4);
        ApprovalRoutes y = told("post top 9 9 9");
        y.request(2, 0, 0, 1, 0);
        due("none", y.approved(0), 0);
        due("no amounts", y.approved(1), 0);
        due("no days", y.approved(2), -2);
        due("not one", y.approved(3), -2);
        due("NONE", y.approved(4), -1);
    }

    private static void coulds() {
        ApprovalRoutes x = withRequests();
        due("both", x.could(0), 1 << 3 | 1 << 7);
        due("by its whole", x.could(1), 1 << 7);
        due("who stands in", x.could(2), 1 << 4 | 1 << 7);
        due("on its day alone", x.could(3), 1 << 7);
        due("not its own", x.could(4), 1 << 7);
        due("nobody", x.could(5), 0);
        x.recall(1, 7);
        due("recalled or not", x.could(1), 1 << 7);
        x.request(1, 0, 6, 10, 3);
        due("from its own on upwards", x.could(8), 1 << 7);
        due("no request", x.could(9), -1);
        due("no request below", x.could(-1), -1);
    }

    private static void mannedDays() {
        ApprovalRoutes x = told(SMALL);
        due("holder", x.manned(1, 0, 999, 0), 100);
        due("someone decides: not 16 to 20", x.manned(1, 0, 999, 1), 95);
        due("a day", x.manned(1, 15, 15, 1), 1);
        due("the next day", x.manned(1, 16, 16, 1), 0);
        due("has a holder then", x.manned(1, 16, 16, 0), 1);
        due("from within", x.manned(1, 18, 22, 1), 2);
        due("a foe of one vendor", x.manned(0, 0, 999, 1), 1000);
        due("no post", x.manned(2, 0, 1, 0), -1);
        due("no post below", x.manned(-1, 0, 1, 0), -1);
        due("second below the first", x.manned(1, 1, 0, 0), -1);
        due("no day", x.manned(1, 0, 1000, 0), -1);
        due("no day below", x.manned(1, -1, 0, 0), -1);
        due("no such", x.manned(1, 0, 0, 2), -1);
        due("no such below", x.manned(1, 0, 0, -1), -1);
    }

    private static void letters() {
        ApprovalRoutes x = told(SMALL);
        due("how many", x.letter(-1), SMALL.length());
        dueText("as told", x, SMALL);
        due("not so many", x.letter(SMALL.length()), -2);
        due("not nearly so many", x.letter(HIGH), -2);
        due("below NONE", x.letter(-2), -1);
        due("lowest", x.letter(LOW), -1);
        x.set(0, 0);
        x.set(1, 0);
        x.set(2, 30);
        x.limit(0, 1, 1000);
        dueText("as it is now", x, "post top 500 1000 0;post 0 100 50 20;hold 1 3 0 99;hold 0 7 0 999;"
                + "away 3 10 20;stand 3 4 5 15 60;foe 7 2;pace 0;wait 30");
        ApprovalRoutes y = new ApprovalRoutes();
        due("none", y.letter(-1), 0);
        due("no first", y.letter(0), -2);
        y.foe(10, 9);
        dueText("a part alone", y, "foe 10 9");
        longestLetter();
    }

    private static void longestLetter() {
        ApprovalRoutes x = told("post top 9999 9999 9999" + ";post0 0 0 0".repeat(11));
        StringBuilder want = new StringBuilder("post top 9999 9999 9999" + ";post 0 0 0 0".repeat(11));
        for (int k = 0; k < 24; k++) {
            x.hold(11, 15, 998, 999);
            x.away(15, 998, 999);
            x.stand(15, 14, 998, 999, 9999);
        }
        want.append(";hold 11 15 998 999".repeat(24)).append(";away 15 998 999".repeat(24)).append(";stand 15 14 998 999 9999".repeat(24));
        for (int k = 0; k < 16; k++) {
            x.foe(k, 9);
            want.append(";foe ").append(k).append(" 9");
        }
        dueText("longer than a tape", x, want.toString());
    }

    private static void soonestDays() {
        ApprovalRoutes x = withRequests();
        due("the day", x.soonest(3, 16, 30, 0), 16);
        due("approved on", x.soonest(3, 16, 30, 1), 19);
        due("joined on 15, with its 60", x.soonest(3, 14, 14, 1), 15);
        due("by that day alone", x.soonest(3, 18, 18, 1), 21);
        due("of several the first", x.soonest(3, 18, 21, 0), 18);
        due("60 more", x.soonest(3, 16, 76, 0), 16);
        due("61 more", x.soonest(3, 16, 77, 0), -1);
        due("by none", x.soonest(5, 0, 60, 0), -2);
        due("by none, the day", x.soonest(5, 0, 60, 1), -2);
        due("not joined so far from 5", x.soonest(1, 9, 9, 1), 9);
        due("joined up to 8", x.soonest(1, 8, 8, 1), 9);
        x.recall(3, 18);
        due("recalled or not", x.soonest(3, 16, 30, 1), 19);
        due("the last days", x.soonest(7, 999, 999, 1), -2);
        due("no day", x.soonest(3, 999, 1000, 0), -1);
        due("no day below", x.soonest(3, -1, 0, 0), -1);
        due("second below the first", x.soonest(3, 5, 4, 0), -1);
        due("no such", x.soonest(3, 5, 5, 2), -1);
        due("no such below", x.soonest(3, 5, 5, -1), -1);
        due("no request", x.soonest(8, 5, 5, 0), -1);
        due("no request below", x.soonest(-1, 5, 5, 0), -1);
        ApprovalRoutes y = told("post top 99 99 99;hold 0 1 0 999");
        y.request(2, 0, 0, 60, 10);
        y.request(2, 0, 0, 60, 10);
        y.recall(0, 10);
        due("too late to recall it", y.asked(0, 6), -2);
        due("joined on its day", y.soonest(1, 10, 10, 0), -2);
        due("not on the next", y.soonest(1, 10, 20, 0), 11);
    }

    private static void insteads() {
        ApprovalRoutes x = withRequests();
        due("another post", x.instead(0, 0, 0), 1);
        due("on", x.instead(0, 0, 1), 5);
        due("by", x.instead(0, 0, 2), 7);
        due("its own", x.instead(0, 1, 2), 3);
        due("stuck at its own", x.instead(5, 0, 0), 2);
        due("stuck on", x.instead(5, 0, 1), 3);
        due("stuck by nobody", x.instead(5, 0, 2), -2);
        due("approved below", x.instead(5, 1, 0), 1);
        x.recall(1, 7);
        due("recalled or not, joined ones too", x.instead(1, 1, 1), 8);
        due("no post", x.instead(0, 2, 0), -1);
        due("no post below", x.instead(0, -1, 0), -1);
        due("no such", x.instead(0, 0, 3), -1);
        due("no such below", x.instead(0, 0, -1), -1);
        due("no request", x.instead(8, 0, 0), -1);
        due("no request below", x.instead(-1, 0, 0), -1);
    }

    private static void pillars() {
        ApprovalRoutes x = withRequests();
        due("which", x.pillar(0), 7);
        due("how many", x.pillar(1), 3);
        x.recall(1, 7);
        due("not the recalled one", x.pillar(1), 2);
        due("no such", x.pillar(2), -1);
        due("no such below", x.pillar(-1), -1);
        ApprovalRoutes y = told("post top 9 9 9;hold 0 1 0 9;hold 0 2 10 999;stand 2 3 0 999 9");
        y.request(5, 0, 0, 1, 20);
        due("none would", y.pillar(0), -2);
        due("none would, how many", y.pillar(1), -2);
        y.request(5, 0, 1, 1, 1);
        due("one would", y.pillar(0), 1);
        y.request(3, 0, 2, 1, 20);
        due("of several the least", y.pillar(0), 1);
        y.request(3, 0, 3, 1, 20);
        due("more", y.pillar(0), 2);
        due("how many more", y.pillar(1), 2);
        due("none", told("post top 9 9 9").pillar(0), -2);
    }

    private static void gaps() {
        ApprovalRoutes x = told(SMALL);
        due("how many", x.gap(1, 0, 999, 0), 905);
        due("the first", x.gap(1, 0, 999, 1), 16);
        due("the most", x.gap(1, 0, 999, 2), 900);
        due("how many up to 99", x.gap(1, 0, 99, 0), 5);
        due("the most up to 99", x.gap(1, 0, 99, 2), 5);
        due("from within", x.gap(1, 18, 99, 1), 18);
        due("from within, the most", x.gap(1, 18, 100, 2), 3);
        x.away(9, 18, 18);
        due("a change of another breaks no line of days", x.gap(1, 0, 99, 2), 5);
        due("none", x.gap(0, 0, 999, 0), 0);
        due("no first", x.gap(0, 0, 999, 1), -2);
        due("no days", x.gap(0, 0, 999, 2), 0);
        due("no such", x.gap(0, 0, 0, 3), -1);
        due("no such below", x.gap(0, 0, 0, -1), -1);
        due("second below the first", x.gap(0, 1, 0, 0), -1);
        due("no day", x.gap(0, 0, 1000, 0), -1);
        due("no day below", x.gap(0, -1, 0, 0), -1);
        due("no post", x.gap(2, 0, 1, 0), -1);
        due("no post below", x.gap(-1, 0, 1, 0), -1);
    }

    private static void dodges() {
        ApprovalRoutes x = told(SMALL);
        due("at once", x.dodge(1, 1, 0, 100, 0), 1);
        due("two", x.dodge(1, 1, 0, 101, 0), 2);
        due("the first ones 1 more", x.dodge(1, 1, 0, 200, 0), 2);
        due("three", x.dodge(1, 1, 0, 201, 0), 3);
        due("parts on 8 and 12: the second 60 at most", x.dodge(1, 1, 0, 120, 8), 2);
        due("the second is the lesser one", x.dodge(1, 1, 0, 121, 8), 2);
        due("on 8, 12 and then 16, by nobody", x.dodge(1, 1, 0, 122, 8), -2);
        x.set(2, 5);
        due("the third waits till 21", x.dodge(1, 1, 0, 122, 8), 3);
        due("its own", x.dodge(3, 1, 0, 10, 0), -2);
        due("nobody", x.dodge(1, 1, 0, 10, 100), -2);
        due("a limit of 0", x.dodge(1, 0, 10, 1, 0), -2);
        due("of kind 2: 20", x.dodge(1, 1, 20, 41, 30), 3);
        due("day 999", x.dodge(1, 0, 0, 500, 999), 1);
        due("a day above 999", x.dodge(1, 0, 0, 501, 996), -2);
        due("999 does", x.dodge(1, 0, 0, 501, 995), 2);
        x.limit(0, 0, 249);
        due("40 parts do not hold it", x.dodge(1, 0, 0, 9961, 0), -2);
        due("40 parts", x.dodge(1, 0, 0, 9960, 0), 40);
        x.limit(0, 0, 0);
        due("none below 1", x.dodge(1, 0, 0, 3, 0), -2);
        x.request(1, 1, 0, 90, 0);
        due("nothing joined", x.dodge(1, 1, 0, 100, 0), 1);
        due("no person", x.dodge(16, 0, 0, 1, 0), -1);
        due("no person below", x.dodge(-1, 0, 0, 1, 0), -1);
        due("no post", x.dodge(0, 2, 0, 1, 0), -1);
        due("no post below", x.dodge(0, -1, 0, 1, 0), -1);
        due("no which", x.dodge(0, 0, 30, 1, 0), -1);
        due("no which below", x.dodge(0, 0, -1, 1, 0), -1);
        due("no amount", x.dodge(0, 0, 0, 0, 0), -1);
        due("no amount above", x.dodge(0, 0, 0, 10000, 0), -1);
        due("no day", x.dodge(0, 0, 0, 1, 1000), -1);
        due("no day below", x.dodge(0, 0, 0, 1, -1), -1);
    }

    private static void tangles() {
        ApprovalRoutes x = told("stand 1 2 0 9 0;stand 2 3 0 9 0;stand 3 1 5 9 0;stand 3 4 0 8 0;stand 5 6 9 10 0");
        due("a line", x.tangle(0), 4);
        due("a ring and one on it", x.tangle(5), 4);
        due("a ring", x.tangle(9), 3);
        due("two", x.tangle(10), 2);
        due("none", x.tangle(11), 0);
        due("no day", x.tangle(1000), -1);
        due("no day below", x.tangle(-1), -1);
        for (int person = 0; person < 15; person++) {
            x.stand(person, person + 1, 20, 20, 1);
        }
        due("all", x.tangle(20), 16);
        x.stand(15, 0, 20, 20, 1);
        due("all in a ring", x.tangle(20), 16);
    }

    private static void counts() {
        ApprovalRoutes x = withRequests();
        x.recall(7, 999);
        x.keep(1);
        feed(x, "foe");
        int[] is = {2, 2, 1, 1, 1, 3, 1, 2, 8, 1, 2, 9, 3, 2};
        for (int what = 0; what < is.length; what++) {
            due("count(" + what + ")", x.count(what), is[what]);
        }
        due("no such", x.count(14), -1);
        due("no such below", x.count(-1), -1);
        due("lowest", x.count(LOW), -1);
        due("highest", x.count(HIGH), -1);
    }
}
