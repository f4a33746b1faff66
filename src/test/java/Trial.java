import java.lang.reflect.Method;
import java.nio.charset.StandardCharsets;
import java.util.ArrayList;
import java.util.Arrays;
import java.util.HashMap;
import java.util.List;
import java.util.Map;
import java.util.stream.Collectors;

/**
 * A new object and the calls made on it, each told by its name and its numbers, with the answer that is due.
 * As all calls are noted, they can be made once more on another new object: so what a call has changed
 * can be looked at from all sides, and no object is used for more calls than the document promises.
 */
final class Trial {
    static final int NONE = -1;
    static final int LOW = Integer.MIN_VALUE;
    static final int HIGH = Integer.MAX_VALUE;
    private static final int MOST_CALLS = 512;
    private static final Map<String, Method> FACE = new HashMap<>();

    static {
        for (Method method : ApprovalRoutes.class.getDeclaredMethods()) {
            FACE.put(method.getName(), method);
        }
    }

    record Call(String name, int... args) {
        @Override
        public String toString() {
            return name + Arrays.stream(args).mapToObj(Integer::toString).collect(Collectors.joining(", ", "(", ")"));
        }
    }

    private final Sentences report;
    private final ApprovalRoutes object = new ApprovalRoutes();
    private final List<Call> calls = new ArrayList<>();

    Trial(Sentences report) {
        this.report = report;
    }

    Trial another() {
        return new Trial(report);
    }

    private Trial copy() {
        Trial copy = another();
        calls.forEach(copy::make);
        return copy;
    }

    private long make(Call call) {
        if (calls.size() == MOST_CALLS) {
            throw new IllegalStateException("the test makes more calls than the document promises");
        }
        calls.add(call);
        try {
            Object[] numbers = Arrays.stream(call.args).boxed().toArray();
            return ((Number) FACE.get(call.name).invoke(object, numbers)).longValue();
        } catch (ReflectiveOperationException thrown) {
            report.wrong(call + " threw " + thrown.getCause());
            return Long.MIN_VALUE;
        }
    }

    long call(String name, int... args) {
        return make(new Call(name, args));
    }

    // ---- texts ----

    Trial feed(String text) {
        byte[] bytes = text.getBytes(StandardCharsets.ISO_8859_1);
        int before = (int) call("count", 12);
        for (int at = 0; at < bytes.length; at += 20) {
            int[] five = new int[5];
            for (int i = 0; i < 20; i++) {
                five[i / 4] = five[i / 4] << 8 | (at + i < bytes.length ? bytes[at + i] & 255 : 0);
            }
            call("feed", five);
        }
        return due(before + bytes.length, "end", before + bytes.length);
    }

    /** Tells a text that is one. */
    Trial tell(String text) {
        feed(text);
        long posts = call("tell");
        report.check(posts >= 0, "tell() of '" + text + "' answered " + posts);
        return this;
    }

    /** Tells a text that is none; but for the tape, which is empty, all must be as before. */
    Trial dueFault(int place, int how, String text) {
        List<String> before = copy().due(0, "end", 0).seen();
        feed(text);
        long got = call("tell");
        long want = -2 - (8L * place + how);
        report.check(got == want, "tell() of '" + text + "' answered " + got + ", due is " + want);
        return sameAs(before, "tell() of '" + text + "'");
    }

    /** The order as it is told by letter(). */
    String letters() {
        int size = (int) copy().call("letter", NONE);
        StringBuilder text = new StringBuilder();
        Trial reader = copy();
        for (int k = 0; k < size; k++) {
            reader = reader.calls.size() == MOST_CALLS ? copy() : reader;
            text.append((char) reader.call("letter", k));
        }
        return text.toString();
    }

    Trial dueLetters(String want) {
        String got = letters();
        report.check(got.equals(want), "the order is told as '" + got + "', due is '" + want + "'");
        return this;
    }

    // ---- answers ----

    Trial due(long want, String name, int... args) {
        Call call = new Call(name, args);
        long got = make(call);
        report.check(got == want, call + " answered " + got + ", due is " + want);
        return this;
    }

    /** As due(), with 0, 1, .. as the call's last number, an answer for each. */
    Trial dueRow(String name, int[] first, long... wants) {
        for (int what = 0; what < wants.length; what++) {
            int[] args = Arrays.copyOf(first, first.length + 1);
            args[first.length] = what;
            due(wants[what], name, args);
        }
        return this;
    }

    /** As due(), and nothing happens: all that can be asked behind it is answered as if it had not been made. */
    Trial refused(long want, String name, int... args) {
        List<String> before = seen();
        due(want, name, args);
        return sameAs(before, new Call(name, args).toString());
    }

    /** An act that is made, and undone: all is as before. It must be one of the last ten. */
    Trial undone(long want, String name, int... args) {
        List<String> before = seen();
        due(want, name, args);
        report.check(!before.equals(seen()), new Call(name, args) + " changed nothing");
        call("undo");
        return sameAs(before, new Call(name, args) + " and undo()");
    }

    /** As due(), on a copy on which it is the last call that is promised; those between leave all as it was. */
    Trial dueAsLast(long want, String name, int... args) {
        Call[] acts = {new Call("away", 0, 0, 999), new Call("request", 0, 0, 0, 1, 0), new Call("set", 0, 98), new Call("foe", 15, 9)};
        Trial copy = copy();
        for (int turn = 0; copy.calls.size() + 2 < MOST_CALLS; turn++) {
            copy.make(acts[turn % acts.length]);
            copy.call("undo");
        }
        while (copy.calls.size() + 1 < MOST_CALLS) {
            copy.call("busiest", 0);
        }
        copy.due(want, name, args);
        return this;
    }

    /** Among these numbers low and high are the outermost that do; those behind them, and the far ones, are refused. */
    Trial range(int place, int low, int high, String name, int... args) {
        does(place, low, name, args);
        does(place, high, name, args);
        refusedAt(place, low - 1, name, args);
        refusedAt(place, high + 1, name, args);
        return farOut(place, name, args);
    }

    /** The least and the greatest number there are do not do in this place. */
    Trial farOut(int place, String name, int... args) {
        refusedAt(place, LOW, name, args);
        return refusedAt(place, HIGH, name, args);
    }

    /** On a copy, so that it changes nothing here. */
    Trial does(int place, int value, String name, int... args) {
        int[] with = args.clone();
        with[place] = value;
        Call call = new Call(name, with);
        long got = copy().make(call);
        report.check(got != NONE, call + " answered NONE");
        return this;
    }

    Trial refusedAt(int place, int value, String name, int... args) {
        int[] with = args.clone();
        with[place] = value;
        return refused(NONE, name, with);
    }

    // ---- all that can be seen ----

    private Trial sameAs(List<String> before, String call) {
        List<String> behind = seen();
        for (int i = 0; i < before.size(); i++) {
            boolean same = before.get(i).equals(behind.get(i));
            report.check(same, call + " changed something: before " + before.get(i) + ", behind it " + behind.get(i));
        }
        return this;
    }

    /** All of the state, seen on copies: the order, the requests and their ends, the acts, the shelves, the tape. */
    List<String> seen() {
        return List.of(copy().seenOrder(), copy().seenEntries(0, 1), copy().seenEntries(2, 3), copy().seenRequests(),
                copy().seenPast(), copy().seenShelf(0), copy().seenShelf(1), copy().seenTape());
    }

    private String answers(String name, int[] first, int from, int to) {
        StringBuilder text = new StringBuilder(name + Arrays.toString(first));
        int[] args = Arrays.copyOf(first, first.length + 1);
        for (int last = from; last <= to; last++) {
            args[first.length] = last;
            text.append(' ').append(call(name, args.clone()));
        }
        return text.append("; ").toString();
    }

    private String seenCounts() {
        return answers("count", new int[0], 0, 13) + answers("letter", new int[0], NONE, NONE);
    }

    private String seenOrder() {
        StringBuilder text = new StringBuilder(seenCounts());
        for (int post = 0; post < call("count", 0); post++) {
            text.append(answers("post", new int[] {post}, 0, 3));
        }
        return text.toString();
    }

    private String seenEntries(int... kinds) {
        int[] width = {4, 3, 5, 2};
        StringBuilder text = new StringBuilder();
        for (int kind : kinds) {
            long size = call("count", kind + 1);
            for (int k = 0; k < size; k++) {
                text.append(answers("entry", new int[] {kind, k}, 0, width[kind] - 1));
            }
        }
        return text.toString();
    }

    private String seenRequests() {
        StringBuilder text = new StringBuilder();
        long size = call("count", 8);
        for (int request = 0; request < size; request++) {
            text.append(answers("asked", new int[] {request}, 4, 7)).append(answers("ends", new int[] {request}, 0, 2));
        }
        return text.toString();
    }

    private String seenPast() {
        StringBuilder text = new StringBuilder();
        for (int k = 0; k <= 10; k++) {
            text.append(call("undo")).append(' ').append(seenCounts());
        }
        return text + seenOrder();
    }

    private String seenShelf(int shelf) {
        return call("back", shelf) + " " + seenOrder();
    }

    private String seenTape() {
        return call("tell") + " " + seenOrder();
    }
}
