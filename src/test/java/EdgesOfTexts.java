/** The tape, texts and their faults: promises 2 to 4, and what "Terms" says of a TEXT. */
final class EdgesOfTexts {
    private static final int TERMS = Sentences.TERMS;
    private static final String POST = "post top 1 2 3";

    private EdgesOfTexts() {}

    static void all(Sentences s) {
        feeding(s);
        ending(s);
        telling(s);
        shapes(s);
        uppers(s);
        wordsAndNumbers(s);
        strayLetters(s);
        blanks(s);
        faultsInOrder(s);
        endsAndStrayBytes(s);
        numbersNotAsTold(s);
        oneTooMany(s);
    }

    // ---- promise 2 ----

    private static void feeding(Sentences s) {
        s.says(2, "Twenty bytes come behind the TAPE, of each number the highest first: how many it has", t -> {
            for (int place = 0; place < 20; place++) {
                t.another().dueFault(place, 1, " ".repeat(place) + "x" + " ".repeat(19 - place));
            }
            t.due(20, "feed", 0x666f6520, 0x31203b20, 0x20202020, 0x20202020, 0x20202020);
            t.due(40, "feed", 0x32202020, 0x20202020, 0x20202020, 0x20202020, 0x20202020);
            t.due(-2 - (8 * 6 + 1), "tell");
            t.due(20, "feed", Trial.LOW, Trial.HIGH, -1, 0, 1);
            t.due(-2 - 1, "tell");
        });
        s.says(2, "NONE, and none comes, if it would have more than 400", t -> {
            for (int size = 20; size <= 400; size += 20) {
                t.due(size, "feed", 0x20202020, 0x20202020, 0x20202020, 0x20202020, 0x20202020);
            }
            t.refused(-1, "feed", 0, 0, 0, 0, 0);
            t.refused(-1, "feed", Trial.LOW, Trial.HIGH, Trial.LOW, Trial.HIGH, -1);
            t.due(400, "count", 12);
            t.due(381, "end", 381).refused(-1, "feed", 0, 0, 0, 0, 0);
            t.due(380, "end", 380).due(400, "feed", 0x20202020, 0x20202020, 0x20202020, 0x20202020, 0x20202020);
            t.due(0, "tell").due(20, "feed", 0, 0, 0, 0, 0);
        });
    }

    // ---- promise 3 ----

    private static void ending(Sentences s) {
        s.says(3, "The TAPE has its first n bytes alone: n", t -> {
            t.feed("foe 1 2;foe 3 4;foe 5 6");
            t.due(23, "end", 23).due(7, "end", 7).due(7, "count", 12);
            t.feed(";foe 9 8").due(15, "count", 12).due(0, "tell").dueLetters("foe 1 2;foe 9 8");
            t.feed("foe 1 2").due(0, "end", 0).due(0, "count", 12).due(0, "tell").dueLetters("");
        });
        s.says(3, "NONE, and nothing happens, if it has not so many, or n is below 0", t -> {
            t.range(0, 0, 0, "end", 0);
            t.feed("foe 1 2;foe 3 4").range(0, 0, 15, "end", 0);
            t.due(7, "end", 7).range(0, 0, 7, "end", 0);
        });
    }

    // ---- promise 4 ----

    private static void telling(Sentences s) {
        s.says(4, "The TAPE, which is empty then", t -> {
            t.tell("foe 1 2").due(0, "count", 12).due(-1, "end", 1);
            t.dueLetters("foe 1 2").due(0, "tell").dueLetters("");
            t.feed("foe 1 16").due(-2 - (8 * 6 + 2), "tell").due(0, "count", 12).due(0, "tell");
        });
        s.says(4, "tells an ORDER in place of the one there was (no REQUESTS; nothing can be UNDONE; SHELVES stay)", t -> {
            t.tell(POST + ";hold 0 1 2 3;away 4 5 6;stand 7 8 9 10 11;foe 12 3;window 4;pace 5;wait 6");
            t.due(0, "request", 1, 0, 0, 1, 0).due(1, "keep", 1).due(0, "tell");
            t.dueLetters("").due(0, "count", 8).due(0, "count", 11).refused(-1, "undo");
            t.dueRow("count", new int[0], 0, 0, 0, 0, 0, 0, 1, 2, 0, 0, 0, 0, 0, 2);
            t.refused(-2, "back", 0).due(1, "back", 1).due(1, "count", 8).due(11, "entry", 2, 0, 4);
        });
        s.says(4, "how many POSTS", t -> {
            t.feed("").due(0, "tell").feed("foe 1 2").due(0, "tell").feed(POST).due(1, "tell");
            t.feed(POST + ";post0 0 0 0".repeat(11)).due(12, "tell").due(12, "count", 0);
        });
        s.says(4, "-2 - its FAULT, and but for the TAPE nothing happens", t -> {
            t.dueFault(0, 1, "x");
            t.tell(POST + ";hold 0 1 2 3;foe 4 5;window 7").due(0, "request", 1, 0, 0, 1, 0).due(1, "keep", 0);
            t.due(0, "away", 1, 2, 3).due(1, "request", 1, 0, 0, 1, 1);
            t.dueFault(0, 1, "x").dueFault(14, 1, POST + ":").dueFault(6, 2, "foe 1 10").dueFault(8, 3, "wait 29;wait 30");
            t.dueFault(400, 1, " ".repeat(393) + "foe 15 ");
            t.due(2, "undo").due(1, "undo").due(0, "count", 2).due(1, "back", 0);
        });
    }

    // ---- what a text looks like ----

    private static void shapes(Sentences s) {
        s.says(TERMS, "A TEXT of at most 400 bytes tells it", t -> {
            t.tell("foe 1 2" + " ".repeat(393)).dueLetters("foe 1 2");
            t.tell("foe 1 2" + " ".repeat(385) + ";foe 3 4").dueLetters("foe 1 2;foe 3 4");
            t.dueFault(399, 1, " ".repeat(392) + "foe 1 2!");
            t.dueFault(400, 1, " ".repeat(392) + "foe 1 2;");
        });
        s.says(TERMS, "[ PART { ; PART } ]", t -> {
            t.tell("").dueLetters("").tell("foe 1 2").dueLetters("foe 1 2").tell("foe 1 2;foe 3 4;foe 5 6").due(3, "count", 4);
            t.dueFault(0, 1, ";").dueFault(0, 1, ";foe 1 2").dueFault(8, 1, "foe 1 2;").dueFault(8, 1, "foe 1 2;;foe 3 4");
            t.dueFault(8, 1, "foe 1 2 foe 3 4").dueFault(7, 1, "foe 1 2,foe 3 4").dueFault(4, 1, "foe ;1 2");
        });
        String every = "window 1;pace 2;wait 3;foe 1 2;stand 3 4 5 6 7;away 8 9 10;post top 11 12 13;hold 0 14 15 16;post 0 17 18 19";
        s.says(TERMS, "PART: post UPPER NUMBER NUMBER NUMBER (LIMITS;", t -> {
            t.tell(every).due(2, "count", 0).dueRow("post", new int[] {0}, -2, 11, 12, 13).dueRow("post", new int[] {1}, 0, 17, 18, 19);
        });
        s.says(TERMS, "hold POST PERSON DAY DAY | away PERSON DAY DAY | stand PERSON PERSON DAY DAY CAP | foe PERSON VENDOR", t -> {
            t.tell(every).dueRow("entry", new int[] {0, 0}, 0, 14, 15, 16).dueRow("entry", new int[] {1, 0}, 8, 9, 10);
            t.dueRow("entry", new int[] {2, 0}, 3, 4, 5, 6, 7).dueRow("entry", new int[] {3, 0}, 1, 2);
        });
        s.says(TERMS, "window NUMBER | pace NUMBER | wait NUMBER (of each of the last three one at most)", t -> {
            t.tell(every).due(1, "count", 5).due(2, "count", 6).due(3, "count", 7);
            t.tell("wait 0").due(0, "count", 5).due(1, "count", 6).due(0, "count", 7);
            t.dueFault(9, 3, "window 1;window 1").dueFault(7, 3, "pace 1;pace 1").dueFault(7, 3, "wait 1;wait 1");
            t.dueFault(23, 3, "window 0;pace 1;wait 2;window 0").dueFault(23, 3, "window 0;pace 1;wait 2;pace 9");
        });
    }

    private static void uppers(Sentences s) {
        s.says(TERMS, "UPPER: top, there is none, or a NUMBER: a POST told ahead", t -> {
            t.tell(POST + ";post 0 0 0 0;post top 0 0 0;post 1 0 0 0;post0000 1 1 1");
            t.due(-2, "post", 0, 0).due(0, "post", 1, 0).due(-2, "post", 2, 0).due(1, "post", 3, 0).due(0, "post", 4, 0);
            t.dueFault(5, 2, "post 0 1 2 3").dueFault(20, 2, POST + ";post 1 1 2 3").dueFault(20, 2, POST + ";post 2147483648 1 2 3");
            t.dueFault(20, 2, POST + ";post 4294967296 1 2 3").dueFault(20, 2, POST + ";post 18446744073709551616 1 2 3");
            t.dueFault(5, 1, "post to 1 2 3").dueFault(5, 1, "post tops 1 2 3").dueFault(5, 1, "post Top 1 2 3").dueFault(5, 1, "post -1 1 2 3");
            t.dueFault(8, 1, "post top").dueFault(9, 1, "post top top 2 3").dueFault(20, 1, POST + ";hold top 1 2 3");
            String eleven = POST + ";post0 0 0 0".repeat(10);
            t.dueFault(eleven.length() + 6, 2, eleven + ";post 11 0 0 0");
            t.tell(eleven + ";post 10 0 0 0").due(10, "post", 11, 0);
        });
    }

    private static void wordsAndNumbers(Sentences s) {
        s.says(TERMS, "WORDS are small letters, NUMBERS digits, as far as they go on", t -> {
            for (char stray : new char[] {'`', '{', '@', 'A', 'Z', '[', '/', ':', '-', '+', '.', '_', (char) 127, (char) 128, (char) 255}) {
                t.dueFault(0, 1, stray + "foe 1 2").dueFault(3, 1, "foe" + stray + "1 2").dueFault(5, 1, "foe 1" + stray + " 2");
                t.dueFault(7, 1, "foe 1 2" + stray);
                t = t.another();
            }
            t.dueFault(0, 1, "afoe 1 2").dueFault(0, 1, "zfoe 1 2").dueFault(0, 1, "foea 1 2").dueFault(0, 1, "foez 1 2");
            t.dueFault(0, 1, "fo 1 2").dueFault(0, 1, "f").dueFault(0, 1, "FOE 1 2").dueFault(0, 1, "posttop 1 2 3").dueFault(7, 1, "foe 1 2foe 3 4");
            t.dueFault(4, 2, "foe 159").dueFault(6, 2, "foe 1 59").dueFault(5, 1, "foe 1").dueFault(4, 2, "foe 123");
            t.tell("foe 0000000000000000000000000015 009").dueLetters("foe 15 9");
            t.tell("foe 09 0;foe 00 00").dueLetters("foe 9 0;foe 0 0");
        });
    }

    /** A part with one letter of its word changed, each in turn. */
    private static void strayLetters(Sentences s) {
        String[] parts = {"post top 1 2 3", "hold 0 1 2 3", "away 1 2 3", "stand 1 2 3 4 5", "foe 1 2", "window 1", "pace 2", "wait 3"};
        s.says(TERMS, "1 a byte or WORD that cannot stand there", t -> {
            int begin = POST.length() + 1;
            for (String part : parts) {
                t.tell(POST + ";" + part);
                for (int i = 0; i < part.indexOf(' '); i++) {
                    t.dueFault(begin, 1, POST + ";" + part.substring(0, i) + "x" + part.substring(i + 1));
                }
                t = t.another();
            }
            t.dueFault(5, 1, "post xop 1 2 3").dueFault(5, 1, "post txp 1 2 3").dueFault(5, 1, "post tox 1 2 3").dueFault(5, 1, "post foe 1 2 3");
        });
    }

    private static void blanks(Sentences s) {
        s.says(TERMS, "blanks (32) stand between as one likes", t -> {
            t.tell("foe1 2;foe3 4").dueLetters("foe 1 2;foe 3 4").tell("post top1 2 3;post0 4 5 6").due(2, "count", 0);
            t.tell("   foe    1    2   ;   foe   3   4   ").dueLetters("foe 1 2;foe 3 4").tell("    ").dueLetters("");
            for (int stray : new int[] {0, 9, 10, 13, 31, 33, 160}) {
                t.dueFault(5, 1, "foe 1" + (char) stray + "2").dueFault(0, 1, (char) stray + "foe 1 2").dueFault(7, 1, "foe 1 2" + (char) stray);
            }
            t.dueFault(0, 1, "fo e 1 2").dueFault(5, 1, "post to p 1 2 3").dueFault(8, 1, "foe 1 5 9").dueFault(1, 1, " ;foe 1 2");
        });
    }

    // ---- faults ----

    private static void faultsInOrder(Sentences s) {
        s.says(TERMS, "FAULT of a text that is none: of the first place along it that is wrong (0 the first byte), 8 times the place and:", t -> {
            t.dueFault(0, 1, "x").dueFault(0, 1, "x 16 10").dueFault(4, 2, "foe 16 10;x").dueFault(6, 2, "foe 1 10;x");
            t.dueFault(8, 1, "foe 1 2;x;foe 16 2").dueFault(7, 3, "wait 1;wait 31;foe 16 2").dueFault(5, 2, "wait 31;wait 1");
            t.dueFault(399, 1, " ".repeat(399) + "!").dueFault(391, 2, " ".repeat(387) + "foe 16 9" + " ".repeat(5));
        });
        s.says(TERMS, "Of one place the least.", t -> {
            t.dueFault(7, 1, "wait 1 wait 2").dueFault(9, 1, "window 1 window 1").dueFault(9, 1, "window 1 100").dueFault(0, 1, "100");
            String foes = "foe0 0" + ";foe0 0".repeat(15);
            t.dueFault(foes.length() + 1, 1, foes + " foe 1 1").dueFault(foes.length() + 1, 3, foes + ";foe 16 10");
            t.dueFault(5, 1, "wait wait 1").dueFault(12, 1, "wait 1;pace wait");
        });
    }

    private static void endsAndStrayBytes(Sentences s) {
        s.says(TERMS, "1 a byte or WORD that cannot stand there, or the text ends (the place behind its last byte)", t -> {
            t.dueFault(4, 1, "post").dueFault(12, 1, "post top 1 2").dueFault(25, 1, POST + ";hold 0 1 2").dueFault(8, 1, "away 1 2");
            t.dueFault(13, 1, "stand 1 2 3 4").dueFault(5, 1, "foe 1").dueFault(6, 1, "window").dueFault(4, 1, "pace").dueFault(4, 1, "wait");
            t.dueFault(7, 1, "wait   ").dueFault(9, 1, "foe 1    ").dueFault(8, 1, "wait 29;").dueFault(11, 1, "wait 29;   ");
            t.dueFault(400, 1, " ".repeat(396) + "wait").dueFault(400, 1, "wait" + " ".repeat(396));
            t = t.another();
            t.dueFault(15, 1, POST + " 4").dueFault(28, 1, POST + ";hold 0 1 2 3 4").dueFault(11, 1, "away 1 2 3 4");
            t.dueFault(16, 1, "stand 1 2 3 4 5 6").dueFault(8, 1, "foe 1 2 3").dueFault(9, 1, "window 1 2");
            t.dueFault(7, 1, "pace 1 2").dueFault(7, 1, "wait 1 2").dueFault(0, 1, "request 1 0 0 1 0").dueFault(0, 1, "top")
                    .dueFault(7, 1, "away 1 x 3");
        });
    }

    /** The numbers of a part, each with the greatest that does; the part is told behind a post. */
    private static void greatest(Trial t, String word, int... highest) {
        for (int place = 0; place < highest.length; place++) {
            StringBuilder does = new StringBuilder(POST + ";" + word);
            StringBuilder not = new StringBuilder(does);
            int begin = 0;
            for (int i = 0; i < highest.length; i++) {
                does.append(' ').append(highest[i]);
                begin = i == place ? not.length() + 1 : begin;
                not.append(' ').append(i == place ? highest[i] + 1 : highest[i]);
            }
            Trial one = t.another().tell(does.toString());
            one.dueFault(begin, 2, not.toString());
            one.dueFault(begin, 2, not.substring(0, begin) + "2147483648").dueFault(begin, 2, not.substring(0, begin) + "4294967296 0");
            one.dueFault(begin, 1, not.substring(0, begin) + "-1").dueFault(begin, 1, not.substring(0, begin) + "top");
        }
    }

    private static void numbersNotAsTold(Sentences s) {
        s.says(TERMS, "2 a NUMBER (where it begins) that is not as told", t -> {
            greatest(t, "post top", 9999, 9999, 9999);
            greatest(t, "hold", 0, 15, 999, 999);
            greatest(t, "away", 15, 999, 999);
            greatest(t, "stand 0", 15, 999, 999, 9999);
            t.tell("stand 15 0 0 0 0").dueFault(6, 2, "stand 16 0 0 0 0").dueFault(6, 2, "stand 4294967296 1 0 0 0");
            greatest(t, "foe", 15, 9);
            greatest(t, "window", 99);
            greatest(t, "pace", 9);
            greatest(t, "wait", 30);
            t.tell("post top 0 0 0;hold 0 0 0 0;away 0 0 0;stand 1 0 0 0 0;foe 0 0;window 0;pace 0;wait 0");
            t.dueLetters("post top 0 0 0;hold 0 0 0 0;away 0 0 0;stand 1 0 0 0 0;foe 0 0;pace 0;wait 0");
            t.dueFault(7, 2, "foe    00016 10").dueFault(7, 2, "away 1 0001000 5");
        });
        s.says(TERMS, "(a POST that was not told ahead, a TAKER that is the GIVER, a second DAY below the first, too)", t -> {
            t.dueFault(5, 2, "hold 0 1 2 3;" + POST).dueFault(20, 2, POST + ";hold 1 1 2 3;post 0 1 1 1");
            t.tell(POST + ";post 0 1 1 1;hold 1 1 2 3").due(1, "entry", 0, 0, 0);
            t.dueFault(8, 2, "stand 1 1 2 3 4").dueFault(8, 2, "stand 0 0 2 3 4").dueFault(9, 2, "stand 15 15 2 3 4")
                    .dueFault(8, 2, "stand 1 01 2 3 4");
            t.tell("stand 1 0 2 3 4;stand 1 2 2 3 4").due(2, "count", 3);
            t.dueFault(26, 2, POST + ";hold 0 1 5 4").dueFault(28, 2, POST + ";hold 0 1 999 998").dueFault(26, 2, POST + ";hold 0 9 1 0");
            t.dueFault(9, 2, "away 1 5 4").dueFault(12, 2, "stand 1 2 5 4 9").dueFault(11, 2, "away 1 999 998").dueFault(9, 2, "away 1 1 0");
            t.tell(POST + ";hold 0 1 5 5;away 1 5 5;stand 1 2 5 5 9;away 1 0 0;away 1 999 999").due(3, "count", 2);
        });
    }

    private static void oneTooMany(Sentences s) {
        s.says(TERMS, "3 the WORD of one more than there may be, of a second window, pace, wait", t -> {
            most(t, POST, ";post0 0 0 0", 11, 0, 12);
            most(t, POST, ";hold0 0 0 0", 24, 1, 24);
            most(t, "away0 0 0", ";away0 0 0", 23, 2, 24);
            most(t, "stand0 1 0 0 0", ";stand0 1 0 0 0", 23, 3, 24);
            most(t, "foe0 0", ";foe0 0", 15, 4, 16);
            t.dueFault(9, 3, "window 1;window 2").dueFault(9, 3, "window 0;window 0").dueFault(7, 3, "pace 1;pace 1").dueFault(7, 3, "wait 2;wait 2");
            t.dueFault(10, 3, "wait 2;   wait 2").dueFault(7, 3, "wait 2;wait x").dueFault(7, 3, "pace 2;pace");
        });
    }

    private static void most(Trial t, String first, String more, int times, int count, int full) {
        String text = first + more.repeat(times);
        Trial one = t.another().tell(text).due(full, "count", count);
        one.dueFault(text.length() + 1, 3, text + more);
        one.dueFault(text.length() + 4, 3, text + ";   " + more.substring(1, more.indexOf('0')));
    }
}
