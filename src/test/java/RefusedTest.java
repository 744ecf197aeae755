/** What is refused changes nothing (but the tape): each refusal of each call, with all that can be asked behind it. */
public final class RefusedTest {
    private static final int MAKE_PLAIN = 0;
    private static final int MAKE_FOLDER = 1;
    private static final int MAKE_OTHER = 2;
    private static final int LINK = 3;
    private static final int SYMLINK = 4;
    private static final int RENAME = 5;
    private static final int REMOVE = 6;
    private static final int REMOVE_FOLDER = 7;
    private static final int FIND = 8;
    private static final int FOLLOW = 9;
    private static final int HOLD = 10;

    private static final String MORE = "n".repeat(256);
    private static final String[] PATHS = {"d", "d/e", "d/f", "l", "o", "g", "d/h", "d/e/i"};
    private static final int[] FILES = {2, 3, 4, 5, 6, 7, 7, 8};

    public static void main(String[] args) {
        refusedTapes();
        refusedPaths();
        refusedMakes();
        refusedLinks();
        refusedRemoves();
        refusedRenames();
        refusedFinds();
        refusedNumbers();
        Check.end();
    }

    /** A tree with a file of each kind, one of them held, and no room left. */
    private static Check tree(String title) {
        Check x = new Check(title);
        x.folder("d", 2);
        x.folder("d/e", 3);
        x.plain("d/f", 4);
        x.symlink("l", "d", 5);
        x.symlink("o", "o", 6);
        x.plain("g", 7);
        x.link("g", "d/h", 7);
        x.plain("d/e/i", 8);
        x.hold("g", 7);
        x.count(3, 9);
        x.room(9, 0);
        return x;
    }

    private static void refused(int reader, String tape, int want) {
        Check x = tree("What is refused changes nothing, call " + reader + " of " + tape.replace('\0', '!'));
        String before = x.state();
        x.tape(tape);
        x.due("the call", x.read(reader), want);
        x.same("the state", x.state(), before);
        for (int i = 0; i < PATHS.length; i++) {
            x.find(PATHS[i], FILES[i]);
        }
        x.hold("l/h", 7);
        // Neither the room nor the least number has changed.
        x.plain("new", Check.FULL);
        x.room(11, 2);
        x.plain("new", 9);
        x.symlink("newer", "t".repeat(60), Check.FULL);
    }

    private static void refusedTapes() {
        for (int reader = 0; reader < Check.READERS; reader++) {
            refused(reader, "\0\0", Check.BAD);
            refused(reader, "g\0new\0", Check.BAD);
            refused(reader, "\0g\0new", Check.BAD);
        }
        for (int reader : new int[] {LINK, SYMLINK, RENAME}) {
            refused(reader, "new", Check.BAD);
            refused(reader, "new\0", Check.BAD);
            refused(reader, "", Check.BAD);
        }
        for (int reader : new int[] {MAKE_PLAIN, MAKE_FOLDER, REMOVE, REMOVE_FOLDER, FIND, FOLLOW, HOLD}) {
            refused(reader, "g\0new", Check.BAD);
            refused(reader, "g\0", Check.BAD);
        }
        refused(SYMLINK, "new\0" + "t".repeat(1001), Check.BAD);
    }

    private static void refusedPaths() {
        String[] paths = {"g/new", "none/new", "o/new", MORE, "d/" + MORE, "l/f/new", "g/.."};
        int[] answers = {
            Check.NOT_FOLDER, Check.NONE, Check.LOOP, Check.LONG, Check.LONG, Check.NOT_FOLDER, Check.NOT_FOLDER
        };
        for (int i = 0; i < paths.length; i++) {
            for (int reader : new int[] {MAKE_PLAIN, MAKE_FOLDER, REMOVE, REMOVE_FOLDER, FIND, FOLLOW, HOLD}) {
                refused(reader, paths[i], answers[i]);
            }
            refused(LINK, paths[i] + "\0new", answers[i]);
            refused(LINK, "g\0" + paths[i], answers[i]);
            refused(SYMLINK, paths[i] + "\0t", answers[i]);
            refused(RENAME, paths[i] + "\0new", answers[i]);
            refused(RENAME, "g\0" + paths[i], answers[i]);
            refused(MAKE_OTHER, paths[i], Check.BAD);
        }
        for (String path : new String[] {"", "..", "d/..", "."}) {
            for (int reader : new int[] {MAKE_PLAIN, MAKE_FOLDER, MAKE_OTHER, REMOVE, REMOVE_FOLDER}) {
                refused(reader, path, Check.BAD);
            }
            refused(LINK, "g\0" + path, Check.BAD);
            refused(SYMLINK, path + "\0t", Check.BAD);
            refused(RENAME, path + "\0new", Check.BAD);
            refused(RENAME, "g\0" + path, Check.BAD);
        }
    }

    private static void refusedMakes() {
        refused(MAKE_OTHER, "new", Check.BAD);
        refused(MAKE_OTHER, "g", Check.BAD);
        for (String path : PATHS) {
            refused(MAKE_PLAIN, path, Check.THERE);
            refused(MAKE_FOLDER, path, Check.THERE);
            refused(SYMLINK, path + "\0t", Check.THERE);
        }
        refused(MAKE_PLAIN, "new", Check.FULL);
        refused(MAKE_FOLDER, "new", Check.FULL);
        refused(MAKE_PLAIN, "d/new", Check.FULL);
        refused(MAKE_FOLDER, "d/new", Check.FULL);
        refused(SYMLINK, "new\0t", Check.FULL);
        refused(SYMLINK, "d/new\0t", Check.FULL);
        refused(SYMLINK, "d/e/new\0" + "t".repeat(60), Check.FULL);
    }

    private static void refusedLinks() {
        refused(LINK, "none\0new", Check.NONE);
        refused(LINK, "none\0g", Check.NONE);
        refused(LINK, "d\0new", Check.FOLDER);
        refused(LINK, "d/e\0g", Check.FOLDER);
        refused(LINK, "\0new", Check.FOLDER);
        for (String path : PATHS) {
            refused(LINK, "g\0" + path, Check.THERE);
            refused(LINK, "l\0" + path, Check.THERE);
        }
        refused(LINK, "g\0new", Check.FULL);
    }

    private static void refusedRemoves() {
        refused(REMOVE, "none", Check.NONE);
        refused(REMOVE, "d/none", Check.NONE);
        refused(REMOVE, "d", Check.FOLDER);
        refused(REMOVE, "l/e", Check.FOLDER);
        refused(REMOVE_FOLDER, "none", Check.NONE);
        refused(REMOVE_FOLDER, "g", Check.NOT_FOLDER);
        refused(REMOVE_FOLDER, "l", Check.NOT_FOLDER);
        refused(REMOVE_FOLDER, "d", Check.NOT_EMPTY);
        refused(REMOVE_FOLDER, "l/e", Check.NOT_EMPTY);
    }

    private static void refusedRenames() {
        refused(RENAME, "none\0new", Check.NONE);
        refused(RENAME, "none\0g", Check.NONE);
        // Both are names of one file: no refusal, but nothing happens.
        refused(RENAME, "g\0d/h", 7);
        refused(RENAME, "d\0d", 2);
        refused(RENAME, "d\0d/new", Check.INSIDE);
        refused(RENAME, "d\0d/e/new", Check.INSIDE);
        refused(RENAME, "d\0l/e/i", Check.INSIDE);
        refused(RENAME, "d\0g", Check.NOT_FOLDER);
        refused(RENAME, "d/e\0l", Check.NOT_FOLDER);
        refused(RENAME, "g\0d", Check.FOLDER);
        refused(RENAME, "l\0d/e", Check.FOLDER);
        refused(RENAME, "d/e\0d", Check.NOT_EMPTY);
        refused(RENAME, "d/f\0new", Check.FULL);
        refused(RENAME, "d/e\0new", Check.FULL);
        refused(RENAME, "d/e/i\0new", Check.FULL);
    }

    private static void refusedFinds() {
        refused(FIND, "none", Check.NONE);
        refused(FOLLOW, "d/none", Check.NONE);
        refused(FOLLOW, "o", Check.LOOP);
        refused(HOLD, "none", Check.NONE);
        refused(HOLD, "d", Check.BAD);
        refused(HOLD, "l", Check.BAD);
        refused(HOLD, "", Check.BAD);
        refused(HOLD, "o", Check.LOOP);
    }

    /** These calls do not read the tape, so that a refusal leaves it, too. */
    private static void refusedNumbers() {
        Check x = tree("What is refused changes nothing, the calls with numbers alone");
        x.tape("d/");
        String before = x.state();
        x.type('x', 0, Check.BAD);
        x.type('x', 9, Check.BAD);
        x.fill(256, 1, Check.BAD);
        x.fill('x', 1199, Check.BAD);
        x.room(201, Check.BAD);
        x.room(8, Check.BAD);
        x.release(4, Check.BAD);
        x.release(9, Check.BAD);
        x.release(0, Check.BAD);
        x.about(9, 0, Check.BAD);
        x.about(1, 5, Check.BAD);
        x.targetByte(5, 1, Check.BAD);
        x.targetByte(4, 0, Check.BAD);
        x.count(4, Check.BAD);
        x.same("the state", x.state(), before);
        x.find("f", 4);
        x.plain("new", Check.FULL);
        x.about(7, 2, 1);
        for (int i = 0; i < PATHS.length; i++) {
            x.find(PATHS[i], FILES[i]);
        }
    }
}
