import java.nio.charset.StandardCharsets;

/** A NameTree whose calls are compared with what is due; texts stand for bytes 0 to 255. */
final class Check {
    static final int BAD = -1;
    static final int NONE = -2;
    static final int THERE = -3;
    static final int NOT_FOLDER = -4;
    static final int FOLDER = -5;
    static final int NOT_EMPTY = -6;
    static final int FULL = -7;
    static final int LOOP = -8;
    static final int LONG = -9;
    static final int INSIDE = -10;

    private static int wrong = 0;

    final NameTree tree = new NameTree();
    private final String title;

    Check(String title) {
        this.title = title;
    }

    /** Ends a test's main method. */
    static void end() {
        if (wrong != 0) {
            System.out.println(wrong + " answers are not as due");
            System.exit(1);
        }
    }

    void due(String call, int got, int want) {
        if (got != want) {
            wrong++;
            System.out.println(title + ": " + call + " answered " + got + ", due is " + want);
        }
    }

    /** Puts a text on the tape, eight bytes a call. */
    void tape(String text) {
        byte[] bytes = text.getBytes(StandardCharsets.ISO_8859_1);
        for (int from = 0; from < bytes.length; from += 8) {
            int n = Math.min(8, bytes.length - from);
            long characters = 0;
            for (int i = 0; i < n; i++) {
                characters = characters << 8 | bytes[from + i] & 255;
            }
            int before = tree.count(2);
            due("type " + text, tree.type(characters, n), before + n);
        }
    }

    void plain(String path, int want) {
        tape(path);
        due("make(1) " + path, tree.make(1), want);
    }

    void folder(String path, int want) {
        tape(path);
        due("make(2) " + path, tree.make(2), want);
    }

    void link(String path, String name, int want) {
        tape(path + "\0" + name);
        due("link " + path + " " + name, tree.link(), want);
    }

    void symlink(String path, String target, int want) {
        tape(path + "\0" + target);
        due("symlink " + path + " " + target, tree.symlink(), want);
    }

    void remove(String path, int want) {
        tape(path);
        due("remove " + path, tree.remove(), want);
    }

    void removeFolder(String path, int want) {
        tape(path);
        due("removeFolder " + path, tree.removeFolder(), want);
    }

    void rename(String path, String name, int want) {
        tape(path + "\0" + name);
        due("rename " + path + " " + name, tree.rename(), want);
    }

    void find(String path, int want) {
        tape(path);
        due("find(false) " + path, tree.find(false), want);
    }

    void follow(String path, int want) {
        tape(path);
        due("find(true) " + path, tree.find(true), want);
    }

    void hold(String path, int want) {
        tape(path);
        due("hold " + path, tree.hold(), want);
    }

    void release(int file, int want) {
        due("release " + file, tree.release(file), want);
    }

    void about(int file, int what, int want) {
        due("about " + file + " " + what, tree.about(file, what), want);
    }

    void targetByte(int file, int i, int want) {
        due("targetByte " + file + " " + i, tree.targetByte(file, i), want);
    }

    void count(int what, int want) {
        due("count " + what, tree.count(what), want);
    }

    void room(int n, int want) {
        due("room " + n, tree.room(n), want);
    }

    void fill(int c, int n, int want) {
        due("fill " + c + " " + n, tree.fill(c, n), want);
    }

    void type(long characters, int n, int want) {
        due("type " + characters + " " + n, tree.type(characters, n), want);
    }
}
