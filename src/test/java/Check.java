import java.nio.charset.StandardCharsets;

/** A NameTree whose calls are compared with what is due; texts stand for bytes 0 to 255. */
final class Check {
    static final int BAD = -1;
    static final int NONE = -2;
    static final int THERE = -3;
    static final int NOT_FOLDER = -4;
    static final int FOLDER = -5;
    static final int NOT_EMPTY = -6;
    static final int FULL = -7;
    static final int LOOP = -8;
    static final int LONG = -9;
    static final int INSIDE = -10;

    /** What an object answers behind its 512th call is free, so no test goes beyond it. */
    private static final int MOST_CALLS = 512;

    private static int wrong = 0;

    final NameTree tree = new NameTree();
    private final String title;
    private int calls = 0;

    Check(String title) {
        this.title = title;
    }

    /** Ends a test's main method. */
    static void end() {
        if (wrong != 0) {
            System.out.println(wrong + " answers are not as due");
            System.exit(1);
        }
    }

    void due(String call, int got, int want) {
        countCall();
        if (got != want) {
            tellWrong(call + " answered " + got + ", due is " + want);
        }
    }

    /** For answers that are no call's own. */
    void same(String what, String got, String want) {
        if (!got.equals(want)) {
            tellWrong(what + " was " + want + " and is " + got);
        }
    }

    private void countCall() {
        calls++;
        if (calls == MOST_CALLS + 1) {
            tellWrong("the test makes more than " + MOST_CALLS + " calls of one object");
        }
    }

    private void tellWrong(String text) {
        wrong++;
        System.out.println(shortened(title) + ": " + shortened(text));
    }

    /** Paths of a thousand bytes tell no more by their middle. */
    private static String shortened(String text) {
        return text.length() <= 300 ? text
                : text.substring(0, 150) + " .. " + text.substring(text.length() - 150);
    }

    /** Puts a text on the tape by few calls: long rows of one byte by fill, the rest by type. */
    void tape(String text) {
        byte[] bytes = text.getBytes(StandardCharsets.ISO_8859_1);
        countCall();
        int length = tree.count(2);
        int from = 0;
        while (from < bytes.length) {
            int same = sameFrom(bytes, from);
            int n = same > 8 ? same : Math.min(8, bytes.length - from);
            length += n;
            if (same > 8) {
                due("fill for " + text, tree.fill(bytes[from] & 255, n), length);
            } else {
                due("type " + text, tree.type(charactersOf(bytes, from, n), n), length);
            }
            from += n;
        }
    }

    private static int sameFrom(byte[] bytes, int from) {
        int same = 1;
        while (from + same < bytes.length && bytes[from + same] == bytes[from]) {
            same++;
        }
        return same;
    }

    private static long charactersOf(byte[] bytes, int from, int n) {
        long characters = 0;
        for (int i = 0; i < n; i++) {
            characters = characters << 8 | bytes[from + i] & 255;
        }
        return characters;
    }

    /** All that can be asked of the files that are there, and of the tape, as one text. */
    String state() {
        StringBuilder state = new StringBuilder();
        for (int what = 0; what < 4; what++) {
            state.append(ask(tree.count(what))).append(' ');
        }
        for (int file = 1; file <= 40; file++) {
            int kind = ask(tree.about(file, 0));
            if (kind == BAD) {
                continue;
            }
            state.append("| ").append(file).append(": ").append(kind);
            for (int what = 1; what < 5; what++) {
                state.append(' ').append(ask(tree.about(file, what)));
            }
            state.append(' ').append(ask(tree.targetByte(file, 0)));
        }
        return state.toString();
    }

    private int ask(int answer) {
        countCall();
        return answer;
    }

    /** The calls that read the tape, each by a number below READERS. */
    static final int READERS = 11;

    int read(int reader) {
        switch (reader) {
            case 0: return tree.make(1);
            case 1: return tree.make(2);
            case 2: return tree.make(3);
            case 3: return tree.link();
            case 4: return tree.symlink();
            case 5: return tree.rename();
            case 6: return tree.remove();
            case 7: return tree.removeFolder();
            case 8: return tree.find(false);
            case 9: return tree.find(true);
            default: return tree.hold();
        }
    }

    void plain(String path, int want) {
        tape(path);
        due("make(1) " + path, tree.make(1), want);
    }

    void folder(String path, int want) {
        tape(path);
        due("make(2) " + path, tree.make(2), want);
    }

    void link(String path, String name, int want) {
        tape(path + "\0" + name);
        due("link " + path + " " + name, tree.link(), want);
    }

    void symlink(String path, String target, int want) {
        tape(path + "\0" + target);
        due("symlink " + path + " " + target, tree.symlink(), want);
    }

    void remove(String path, int want) {
        tape(path);
        due("remove " + path, tree.remove(), want);
    }

    void removeFolder(String path, int want) {
        tape(path);
        due("removeFolder " + path, tree.removeFolder(), want);
    }

    void rename(String path, String name, int want) {
        tape(path + "\0" + name);
        due("rename " + path + " " + name, tree.rename(), want);
    }

    void find(String path, int want) {
        tape(path);
        due("find(false) " + path, tree.find(false), want);
    }

    void follow(String path, int want) {
        tape(path);
        due("find(true) " + path, tree.find(true), want);
    }

    void hold(String path, int want) {
        tape(path);
        due("hold " + path, tree.hold(), want);
    }

    void release(int file, int want) {
        due("release " + file, tree.release(file), want);
    }

    void about(int file, int what, int want) {
        due("about " + file + " " + what, tree.about(file, what), want);
    }

    void targetByte(int file, int i, int want) {
        due("targetByte " + file + " " + i, tree.targetByte(file, i), want);
    }

    void count(int what, int want) {
        due("count " + what, tree.count(what), want);
    }

    void room(int n, int want) {
        due("room " + n, tree.room(n), want);
    }

    void fill(int c, int n, int want) {
        due("fill " + c + " " + n, tree.fill(c, n), want);
    }

    void type(long characters, int n, int want) {
        due("type " + characters + " " + n, tree.type(characters, n), want);
    }
}
