import java.util.Map;
import java.util.TreeMap;

/** Long runs of mixed calls, the same in every run of the test, compared with the model's answers. */
public final class ModelTest {
    private static final int RUNS = 3000;
    private static final int CALLS = 512;
    private static final String[] CALM = {"a", "b", "c", "d"};
    private static final String[] WILD = {"a", "b", "c", "d", "e", "f", "g", "h", "i", "j", "k", "l", "m", "n", "o"};
    private static final int[] EDGES = {
        0, 1, 2, 3, 4, 5, 8, 9, 39, 40, 41, 59, 60, 200, 201, 255, 256, 1000, 1200, 1201, -1,
        Integer.MAX_VALUE, Integer.MIN_VALUE
    };

    private final Check check;
    private final Model model = new Model();
    private final Map<String, Integer> answers;
    private final String[] names;
    private final int depth;
    private long seed;
    private int calls;

    private ModelTest(int run, Map<String, Integer> answers) {
        check = new Check("run " + run);
        this.answers = answers;
        seed = run * 7919L + 17;
        names = run % 3 == 0 ? CALM : WILD;
        depth = run % 5 == 0 ? 8 : 3;
        if (run % 2 == 0) {
            due("room", check.tree.room(200), model.room(200));
        }
    }

    public static void main(String[] args) {
        Map<String, Integer> answers = new TreeMap<>();
        for (int run = 0; run < RUNS; run++) {
            new ModelTest(run, answers).go();
        }
        // Runs that never come to an answer would compare nothing there.
        Check seen = new Check("the runs come to");
        for (String call : new String[] {
                "make -9", "make -8", "make -7", "make -4", "make -3", "make -2", "make -1",
                "link -9", "link -8", "link -7", "link -5", "link -4", "link -3", "link -2", "link -1",
                "symlink -9", "symlink -8", "symlink -7", "symlink -4", "symlink -3", "symlink -2", "symlink -1",
                "remove -9", "remove -8", "remove -5", "remove -4", "remove -2", "remove -1",
                "removeFolder -6", "removeFolder -4", "removeFolder -2", "removeFolder -1",
                "rename -10", "rename -9", "rename -8", "rename -7", "rename -6", "rename -5", "rename -4",
                "rename -2", "rename -1", "find -9", "find -8", "find -4", "find -2", "find -1",
                "hold -8", "hold -4", "hold -2", "hold -1", "release 0", "release -1"}) {
            seen.due(call, answers.getOrDefault(call, 0) > 0 ? 1 : 0, 1);
        }
        Check.end();
    }

    private void go() {
        // One turn, with its paths, and the last looks stay far below what is left.
        while (calls < CALLS - 60) {
            mixedCall();
            if (pick(4) == 0) {
                int file = pick(20) == 0 ? edge() : 1 + pick(12);
                int what = pick(20) == 0 ? edge() : pick(5);
                due("about " + file + " " + what, check.tree.about(file, what), model.about(file, what));
            }
        }
        compareAll();
    }

    private void mixedCall() {
        switch (pick(16)) {
            case 0, 1, 2 -> {
                write(path());
                int kind = pick(30) == 0 ? edge() : 1 + pick(2);
                due("make", check.tree.make(kind), model.make(kind));
            }
            case 3, 4 -> {
                write(path() + "\0" + path());
                due("link", check.tree.link(), model.link());
            }
            case 5, 6, 7 -> {
                write(path() + "\0" + target());
                due("symlink", check.tree.symlink(), model.symlink());
            }
            case 8 -> {
                write(path());
                due("remove", check.tree.remove(), model.remove());
            }
            case 9 -> {
                write(path());
                due("removeFolder", check.tree.removeFolder(), model.removeFolder());
            }
            case 10, 11 -> {
                write(path() + "\0" + path());
                due("rename", check.tree.rename(), model.rename());
            }
            case 12 -> {
                boolean follow = pick(2) == 0;
                write(path());
                due("find", check.tree.find(follow), model.find(follow));
            }
            case 13 -> {
                write(path());
                due("hold", check.tree.hold(), model.hold());
            }
            case 14 -> {
                int file = pick(20) == 0 ? edge() : 1 + pick(20);
                due("release", check.tree.release(file), model.release(file));
            }
            default -> smallCall();
        }
    }

    private void smallCall() {
        int a = pick(2) == 0 ? edge() : pick(60);
        int b = pick(2) == 0 ? edge() : pick(60);
        switch (pick(6)) {
            case 0 -> due("room " + a, check.tree.room(a), model.room(a));
            case 1 -> due("targetByte", check.tree.targetByte(a, b), model.targetByte(a, b));
            case 2 -> due("count " + a, check.tree.count(a), model.count(a));
            case 3 -> due("fill " + a + " " + b, check.tree.fill(a, b), model.fill(a, b));
            case 4 -> due("type " + b, check.tree.type(a * 0x123456789ABCDEFL, b), model.type(a * 0x123456789ABCDEFL, b));
            default -> anyRead();
        }
    }

    /** A tape that need not suit the call. */
    private void anyRead() {
        write(pick(2) == 0 ? path() : path() + "\0" + path() + (pick(2) == 0 ? "\0" : ""));
        switch (pick(7)) {
            case 0 -> due("make", check.tree.make(1), model.make(1));
            case 1 -> due("link", check.tree.link(), model.link());
            case 2 -> due("symlink", check.tree.symlink(), model.symlink());
            case 3 -> due("remove", check.tree.remove(), model.remove());
            case 4 -> due("rename", check.tree.rename(), model.rename());
            case 5 -> due("find", check.tree.find(true), model.find(true));
            default -> due("hold", check.tree.hold(), model.hold());
        }
    }

    private void compareAll() {
        for (int what = 0; what < 4; what++) {
            due("count " + what, check.tree.count(what), model.count(what));
        }
    }

    private void due(String call, int got, int want) {
        calls++;
        answers.merge(call + " " + want, 1, Integer::sum);
        check.due("call " + calls + ", " + call, got, want);
    }

    /** Writes by few calls, so that most calls of a run are others. */
    private void write(String text) {
        int at = 0;
        while (at < text.length()) {
            int same = 1;
            while (at + same < text.length() && text.charAt(at + same) == text.charAt(at)) {
                same++;
            }
            if (same > 8) {
                int c = text.charAt(at);
                due("fill", check.tree.fill(c, same), model.fill(c, same));
                at += same;
            } else {
                at += typeSome(text, at);
            }
        }
    }

    private int typeSome(String text, int at) {
        int n = Math.min(8, text.length() - at);
        long characters = 0;
        for (int i = 0; i < n; i++) {
            characters = characters << 8 | text.charAt(at + i);
        }
        due("type", check.tree.type(characters, n), model.type(characters, n));
        return n;
    }

    private String target() {
        int way = pick(12);
        if (way == 0) {
            return "/".repeat(55 + pick(8)) + names[pick(names.length)];
        }
        if (way == 1) {
            return "q".repeat(254 + pick(4));
        }
        if (way == 2) {
            return "/".repeat(990 + pick(20));
        }
        return path();
    }

    private String path() {
        StringBuilder path = new StringBuilder(pick(6) == 0 ? "/" : "");
        int parts = 1 + pick(depth);
        for (int i = 0; i < parts; i++) {
            path.append(i == 0 ? "" : "/").append(part());
        }
        if (pick(25) == 0) {
            path.append('/');
        }
        return path.toString();
    }

    private String part() {
        switch (pick(40)) {
            case 0: return "";
            case 1: return ".";
            case 2: return "..";
            case 3: return "...";
            case 4: return pick(3) == 0 ? "x".repeat(254 + pick(3)) : "..";
            default: return names[pick(names.length)];
        }
    }

    private int edge() {
        return EDGES[pick(EDGES.length)];
    }

    private int pick(int n) {
        seed = seed * 6364136223846793005L + 1442695040888963407L;
        return (int) ((seed >>> 33) % n);
    }
}
