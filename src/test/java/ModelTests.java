import java.lang.reflect.Method;
import java.util.ArrayList;
import java.util.List;
import java.util.Random;

/**
 * Long runs of drawn calls, each made on ApprovalRoutes and on PlainModel; the answers must be the same.
 * The seeds are fixed, so a run that fails can be run again: java ModelTests FIRST_SEED NUMBER_OF_RUNS.
 */
public final class ModelTests {
    private static final int CALLS = 512;

    /** A method's name, the signs of its arguments (see drawn()), and how often it is drawn. */
    private static final String[][] CALLABLE = {
        {"request", "nPwad", "60"}, {"recall", "rD", "10"}, {"amend", "raD", "10"}, {"hold", "Pnft", "14"},
        {"away", "nft", "14"}, {"stand", "nnftc", "16"}, {"foe", "nv", "8"}, {"drop", "ex", "7"},
        {"limit", "Pka", "6"}, {"set", "sS", "8"}, {"undo", "", "14"}, {"keep", "h", "2"}, {"back", "h", "2"},
        {"post", "Pq", "6"}, {"entry", "exq", "8"}, {"asked", "rQ", "14"}, {"joined", "r", "10"},
        {"step", "ruq", "30"}, {"chain", "rui", "20"}, {"ends", "rq", "20"}, {"decides", "PdNw", "20"},
        {"power", "ndk", "14"}, {"ring", "d", "8"}, {"split", "r", "14"}, {"without", "rnq", "14"},
        {"cure", "rb", "12"}, {"most", "ru", "14"}, {"load", "nq", "8"}, {"busiest", "b", "5"},
        {"approved", "q", "6"}, {"could", "r", "12"}, {"manned", "Pftb", "8"}, {"letter", "L", "20"},
        {"soonest", "rftb", "12"}, {"instead", "rPq", "12"}, {"pillar", "b", "5"}, {"gap", "Pftq", "8"},
        {"dodge", "nPwad", "14"}, {"tangle", "d", "8"}, {"count", "C", "14"},
    };

    private final Random random;
    private final ApprovalRoutes one = new ApprovalRoutes();
    private final PlainModel other = new PlainModel();
    private final List<String> told = new ArrayList<>();
    private final int persons;
    private final int vendors;
    private final int span;
    private final int start;
    private final int highest;
    private final int oddOneIn;
    private int calls;
    private boolean wrong;

    private ModelTests(long seed) {
        random = new Random(seed);
        persons = 2 + random.nextInt(15);
        vendors = 1 + random.nextInt(10);
        span = List.of(8, 30, 90, 1000).get(random.nextInt(4));
        start = random.nextInt(1001 - span);
        highest = List.of(20, 300, 9999).get(random.nextInt(3));
        oddOneIn = random.nextInt(8) == 0 ? 4 : 60;
    }

    public static void main(String[] args) throws Exception {
        long first = args.length > 0 ? Long.parseLong(args[0]) : 1;
        int runs = args.length > 1 ? Integer.parseInt(args[1]) : 1500;
        int failed = 0;
        for (long seed = first; seed < first + runs; seed++) {
            ModelTests test = new ModelTests(seed);
            test.run();
            if (test.wrong) {
                failed++;
                System.out.println("seed " + seed + ":");
                test.told.forEach(line -> System.out.println("  " + line));
                if (failed == 3) {
                    break;
                }
            }
        }
        System.out.println(failed == 0 ? runs + " runs are as the model's" : failed + " runs are not as the model's");
        if (failed != 0) {
            System.exit(1);
        }
    }

    private void run() throws Exception {
        tellText(text());
        while (calls < CALLS && !wrong) {
            if (random.nextInt(90) == 0) {
                tellText(random.nextInt(3) == 0 ? text() : spoilt(text()));
            } else {
                drawCall();
            }
        }
    }

    private void drawCall() throws Exception {
        int total = 0;
        for (String[] c : CALLABLE) {
            total += Integer.parseInt(c[2]);
        }
        int at = random.nextInt(total);
        for (String[] c : CALLABLE) {
            at -= Integer.parseInt(c[2]);
            if (at < 0) {
                int[] drawn = new int[c[1].length()];
                for (int i = 0; i < drawn.length; i++) {
                    char sign = c[1].charAt(i);
                    drawn[i] = sign == 't' ? drawn[i - 1] + length() : drawn(sign);
                }
                call(c[0], drawn);
                return;
            }
        }
    }

    private int length() {
        return random.nextInt(20) == 0 ? random.nextInt(70) - 2 : random.nextInt(Math.max(2, span / 3));
    }

    private int drawn(char sign) {
        if (random.nextInt(oddOneIn) == 0) {
            return List.of(-2, -1, 0, 16, 12, 40, 1000, 999, 10000, Integer.MIN_VALUE, Integer.MAX_VALUE).get(random.nextInt(11));
        }
        switch (sign) {
            case 'n': return random.nextInt(persons);
            case 'N': return random.nextInt(persons + 1) - 1;
            case 'P': return random.nextInt(Math.max(1, one.count(0)));
            case 'w': return random.nextInt(vendors) + 10 * (random.nextInt(4) == 0 ? random.nextInt(3) : 0);
            case 'v': return random.nextInt(vendors);
            case 'a': return 1 + random.nextInt(highest);
            case 'c': return random.nextInt(highest + 1);
            case 'd': case 'f': return start + random.nextInt(span);
            case 'D': return start + random.nextInt(span) + random.nextInt(5);
            case 'r': return random.nextInt(Math.max(1, one.count(8)));
            case 'e': return random.nextInt(5) - random.nextInt(2);
            case 'x': return random.nextInt(6);
            case 'k': return random.nextInt(3);
            case 's': return random.nextInt(3);
            case 'S': return random.nextInt(random.nextInt(4) == 0 ? 101 : 12);
            case 'h': return random.nextInt(20) == 0 ? random.nextInt(4) - 1 : random.nextInt(2);
            case 'q': return random.nextInt(7);
            case 'Q': return random.nextInt(10);
            case 'u': return random.nextInt(6) - random.nextInt(2);
            case 'i': return random.nextInt(4);
            case 'b': return random.nextInt(2);
            case 'L': return random.nextInt(1 + Math.max(1, one.letter(-1))) - random.nextInt(2);
            case 'C': return random.nextInt(15);
            default: throw new IllegalStateException("sign " + sign);
        }
    }

    private void call(String name, int... args) throws Exception {
        Class<?>[] types = new Class<?>[args.length];
        Object[] values = new Object[args.length];
        StringBuilder line = new StringBuilder(name).append('(');
        for (int i = 0; i < args.length; i++) {
            types[i] = int.class;
            values[i] = args[i];
            line.append(i == 0 ? "" : ", ").append(args[i]);
        }
        long got = ((Number) ApprovalRoutes.class.getMethod(name, types).invoke(one, values)).longValue();
        Method model = PlainModel.class.getMethod(name, types);
        long want = ((Number) model.invoke(other, values)).longValue();
        calls++;
        wrong |= got != want;
        told.add(line + ") answered " + got + (got == want ? "" : ", the model " + want));
    }

    // ---- texts ----

    private void tellText(String text) throws Exception {
        for (int at = 0; at < text.length(); at += 20) {
            int[] five = new int[5];
            for (int i = 0; i < 20; i++) {
                int sign = at + i < text.length() ? text.charAt(at + i) : 0;
                five[i / 4] = five[i / 4] << 8 | sign;
            }
            call("feed", five);
        }
        call("end", text.length());
        call("tell");
    }

    private String text() {
        List<String> parts = new ArrayList<>();
        int posts = 1 + random.nextInt(random.nextInt(8) == 0 ? 13 : 6);
        for (int p = 0; p < posts; p++) {
            String upper = p == 0 || random.nextInt(8) == 0 ? "top" : "" + (random.nextInt(3) > 0 ? p - 1 : random.nextInt(p));
            parts.add("post " + upper + " " + random.nextInt(highest + 1) + " " + random.nextInt(highest + 1) + " " + random.nextInt(highest + 1));
        }
        for (int more = random.nextInt(14); more > 0; more--) {
            parts.add(entry(posts));
        }
        String[] settings = {"window " + random.nextInt(random.nextBoolean() ? 6 : 102), "pace " + random.nextInt(random.nextInt(9) == 0 ? 11 : 4),
            "wait " + random.nextInt(random.nextBoolean() ? 5 : 32)};
        for (String setting : settings) {
            if (random.nextInt(3) > 0) {
                parts.add(random.nextInt(parts.size() + 1), setting);
            }
        }
        String text = String.join(";", parts);
        while (text.length() > 400) {
            text = text.substring(0, Math.max(0, text.lastIndexOf(';')));
        }
        return text;
    }

    private String entry(int posts) {
        int from = start + random.nextInt(span);
        int to = random.nextInt(30) == 0 ? from - 1 : Math.min(999, from + random.nextInt(span));
        int person = random.nextInt(persons);
        switch (random.nextInt(5)) {
            case 0: return "away " + person + " " + from + " " + to;
            case 1: return "stand " + person + " " + random.nextInt(persons) + " " + from + " " + to + " " + random.nextInt(highest + 1);
            case 2: return "foe " + person + " " + random.nextInt(vendors);
            default: return "hold " + random.nextInt(posts) + " " + person + " " + from + " " + to;
        }
    }

    private String spoilt(String text) {
        StringBuilder spoilt = new StringBuilder(text);
        for (int more = 1 + random.nextInt(3); more > 0 && spoilt.length() > 0; more--) {
            int at = random.nextInt(spoilt.length());
            switch (random.nextInt(7)) {
                case 0: spoilt.setCharAt(at, " ;0a9zT\u0000\u00e9".charAt(random.nextInt(9))); break;
                case 1: spoilt.deleteCharAt(at); break;
                case 2: spoilt.insert(at, "   ;0123456789ptop".charAt(random.nextInt(18))); break;
                case 3: spoilt.setLength(at); break;
                case 4: spoilt.append(List.of(";wait 1", ";pace 1", ";foe 1 1", ";", " ", ";foe1 2", ";post0 1 2 3").get(random.nextInt(7))); break;
                case 5: spoilt.append(";foe0 0".repeat(random.nextInt(20))); break;
                default: spoilt.append(";away0 0 0".repeat(random.nextInt(28))); break;
            }
        }
        if (spoilt.length() > 400) {
            spoilt.setLength(400);
        }
        return spoilt.toString();
    }
}
