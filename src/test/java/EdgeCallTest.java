/** The edges of promises 5 to 9 and 11 to 16: each method holds one sentence of the document. */
public final class EdgeCallTest {
    private static final int[] FAR = {Integer.MIN_VALUE, -2, -1, 100, 256, 257, Integer.MAX_VALUE};

    public static void main(String[] args) {
        makeKinds();
        makeThere();
        linkOfEachKind();
        linkOrder();
        linkThere();
        symlinkTargets();
        symlinkTargetIsAnyPath();
        symlinkOrder();
        removeOneOfMany();
        removeTheLast();
        removeRefused();
        removeFolderEmpty();
        removeFolderNotEmpty();
        removeFolderOrder();
        findEach();
        holdOften();
        holdRefused();
        heldWithoutName();
        heldWithSomeNames();
        releaseRefused();
        releaseTellsNames();
        folderGoesWithItsName();
        aboutNumbers();
        aboutKindAndNames();
        aboutFolders();
        aboutParents();
        targetBytes();
        targetBytesOfOthers();
        counts();
        countNumbers();
        Check.end();
    }

    private static void makeKinds() {
        Check x = new Check("Promise 5: 1 plain, 2 a folder; BAD: another kind");
        for (int kind : new int[] {0, 3, 4, -1, 258, Integer.MIN_VALUE + 1, Integer.MAX_VALUE}) {
            x.tape("a");
            x.due("make " + kind, x.tree.make(kind), Check.BAD);
            x.find("a", Check.NONE);
        }
        x.count(0, 1);
        x.tape("a");
        x.due("make 1", x.tree.make(1), 2);
        x.tape("b");
        x.due("make 2", x.tree.make(2), 3);
        x.about(2, 0, 1);
        x.about(2, 1, 1);
        x.about(3, 0, 2);
        x.about(3, 2, 0);
        x.plain("b/c", 4);
        x.plain("a/c", Check.NOT_FOLDER);
    }

    private static void makeThere() {
        Check x = new Check("Promise 5: THERE");
        x.plain("f", 2);
        x.folder("d", 3);
        x.symlink("l", "f", 4);
        x.symlink("m", "none", 5);
        x.link("f", "d/g", 2);
        for (String path : new String[] {"f", "d", "l", "m", "d/g"}) {
            x.plain(path, Check.THERE);
            x.folder(path, Check.THERE);
        }
        x.find("none", Check.NONE);
        x.remove("d/g", 2);
        x.folder("d/g", 6);
        x.count(0, 6);
    }

    private static void linkOfEachKind() {
        Check x = new Check("Promise 6: the file of the first one gets the second one as a name, too");
        x.plain("f", 2);
        x.symlink("l", "f", 3);
        x.folder("d", 4);
        x.link("f", "d/f", 2);
        x.link("l", "d/l", 3);
        x.about(2, 1, 2);
        x.about(3, 1, 2);
        x.find("f", 2);
        x.find("d/f", 2);
        x.find("l", 3);
        x.find("d/l", 3);
        x.link("d/f", "d/g", 2);
        x.about(2, 1, 3);
        x.remove("f", 2);
        x.find("d/g", 2);
        x.count(0, 4);
        x.count(1, 5);
        Check y = new Check("Promise 6: a link that leads nowhere gets a name, too");
        y.symlink("l", "none", 2);
        y.link("l", "k", 2);
        y.symlink("o", "o", 3);
        y.link("o", "p", 3);
        y.about(3, 1, 2);
    }

    private static void linkOrder() {
        Check x = new Check("Promise 6: NONE; FOLDER; THERE; FULL");
        x.plain("f", 2);
        x.folder("d", 3);
        x.link("none", "f", Check.NONE);
        x.link("none", "none", Check.NONE);
        x.link("d", "f", Check.FOLDER);
        x.link("d", "d", Check.FOLDER);
        x.link("", "f", Check.FOLDER);
        x.link("f", "d", Check.THERE);
        x.count(1, 2);
    }

    private static void linkThere() {
        Check x = new Check("Promise 6: THERE, a name of the same file or of another");
        x.plain("f", 2);
        x.plain("g", 3);
        x.folder("d", 4);
        x.symlink("l", "none", 5);
        for (String path : new String[] {"f", "g", "d", "l", "./f/", "d/../f"}) {
            x.link("f", path, Check.THERE);
        }
        x.about(2, 1, 1);
        x.about(3, 1, 1);
        x.link("f", "none", 2);
        x.follow("l", 2);
    }

    private static void symlinkTargets() {
        int[] lengths = {1, 2, 8, 9, 999, 1000};
        for (int length : lengths) {
            Check x = new Check("Promise 7: a target, 1 to 1,000 bytes; bytes " + length);
            x.symlink("l", "t".repeat(length - 1) + "u", 2);
            x.about(2, 0, 3);
            x.about(2, 2, length);
            x.targetByte(2, 0, length == 1 ? 'u' : 't');
            x.targetByte(2, length - 1, 'u');
            x.targetByte(2, length, Check.BAD);
        }
        for (int length : new int[] {0, 1001, 1002, 1198}) {
            Check x = new Check("Promise 7: a target of another length is BAD; bytes " + length);
            x.symlink("l", "t".repeat(length), Check.BAD);
            x.count(0, 1);
            x.count(1, 0);
            x.count(2, 0);
        }
        Check x = new Check("Promise 7: the longest path before a target of 1,000 bytes");
        x.symlink("/".repeat(198) + "l", "t".repeat(1000), 2);
        x.symlink("n".repeat(199), "t".repeat(1000), 3);
        x.find("n".repeat(199), 3);
        x.about(3, 2, 1000);
    }

    private static void symlinkTargetIsAnyPath() {
        Check x = new Check("Promise 7: a target is not gone through before it is wanted");
        int number = 2;
        String[] targets = {"none/x", "..", ".", "/", "l", "f/x", "n".repeat(256), "\u00FF\u0001", "l2", "//"};
        for (String target : targets) {
            x.symlink("l" + number, target, number);
            x.about(number, 2, target.length());
            x.targetByte(number, 0, target.charAt(0));
            number++;
        }
    }

    private static void symlinkOrder() {
        Check x = new Check("Promise 7: THERE; FULL");
        x.plain("f", 2);
        x.room(2, 0);
        x.symlink("f", "t", Check.THERE);
        x.symlink("f", "t".repeat(60), Check.THERE);
        x.symlink("l", "t".repeat(60), Check.FULL);
        x.symlink("f", "", Check.BAD);
        x.symlink("l", "t", 3);
        x.symlink("l", "t", Check.THERE);
    }

    private static void removeOneOfMany() {
        Check x = new Check("Promise 8: one name of several goes");
        x.plain("a", 2);
        x.link("a", "b", 2);
        x.link("a", "c", 2);
        x.remove("b", 2);
        x.find("a", 2);
        x.find("b", Check.NONE);
        x.find("c", 2);
        x.about(2, 1, 2);
        x.remove("a", 2);
        x.find("c", 2);
        x.about(2, 1, 1);
        x.count(1, 1);
    }

    private static void removeTheLast() {
        Check x = new Check("Promise 8: with its last name the file goes");
        x.plain("f", 2);
        x.symlink("l", "f", 3);
        x.remove("f", 2);
        x.about(2, 0, Check.BAD);
        x.follow("l", Check.NONE);
        x.find("l", 3);
        x.remove("l", 3);
        x.about(3, 0, Check.BAD);
        x.count(0, 1);
        x.count(1, 0);
        x.remove("f", Check.NONE);
    }

    private static void removeRefused() {
        Check x = new Check("Promise 8: NONE; FOLDER");
        x.remove("none", Check.NONE);
        x.folder("d", 2);
        x.remove("d", Check.FOLDER);
        x.plain("d/f", 3);
        x.remove("d", Check.FOLDER);
        x.symlink("l", "d", 4);
        x.remove("l/none", Check.NONE);
        x.remove("l/f", 3);
        x.remove("l/f", Check.NONE);
        x.count(0, 3);
    }

    private static void removeFolderEmpty() {
        Check x = new Check("Promise 9: an empty folder goes");
        x.folder("d", 2);
        x.removeFolder("d", 2);
        x.about(2, 0, Check.BAD);
        x.count(0, 1);
        x.count(1, 0);
        x.folder("d", 2);
        x.folder("d/e", 3);
        x.symlink("l", "d", 4);
        x.removeFolder("l/e", 3);
        x.removeFolder("d", 2);
        x.removeFolder("d", Check.NONE);
        x.follow("l", Check.NONE);
        x.count(0, 2);
    }

    private static void removeFolderNotEmpty() {
        Check x = new Check("Promise 9: NOT_EMPTY, by one name of any kind");
        x.folder("d", 2);
        x.plain("d/a", 3);
        x.removeFolder("d", Check.NOT_EMPTY);
        x.remove("d/a", 3);
        x.folder("d/a", 3);
        x.removeFolder("d", Check.NOT_EMPTY);
        x.removeFolder("d/a", 3);
        x.symlink("d/a", "t", 3);
        x.removeFolder("d", Check.NOT_EMPTY);
        x.rename("d/a", "a", 3);
        x.removeFolder("d", 2);
        x.folder("d", 2);
        x.plain("d/b", 4);
        x.hold("d/b", 4);
        x.removeFolder("d", Check.NOT_EMPTY);
        // A file that is held has no name in the folder any more.
        x.remove("d/b", 4);
        x.removeFolder("d", 2);
        x.about(4, 2, 1);
    }

    private static void removeFolderOrder() {
        Check x = new Check("Promise 9: NONE; NOT_FOLDER");
        x.plain("f", 2);
        x.folder("d", 3);
        x.symlink("l", "d", 4);
        x.removeFolder("none", Check.NONE);
        x.removeFolder("f", Check.NOT_FOLDER);
        x.removeFolder("l", Check.NOT_FOLDER);
        x.removeFolder("l/", Check.NOT_FOLDER);
        x.removeFolder("l/.", Check.NOT_FOLDER);
        x.removeFolder("d/..", Check.BAD);
        x.removeFolder("d/.", 3);
        x.count(0, 3);
    }

    private static void findEach() {
        Check x = new Check("Promise 11: its file's number; it follows, if that is wanted; NONE");
        x.plain("f", 2);
        x.folder("d", 3);
        x.symlink("l", "f", 4);
        x.symlink("m", "d", 5);
        x.symlink("n", "none", 6);
        x.symlink("o", "m", 7);
        int[] kept = {1, 2, 3, 4, 5, 6, 7, Check.NONE};
        int[] followed = {1, 2, 3, 2, 3, Check.NONE, 3, Check.NONE};
        String[] paths = {"", "f", "d", "l", "m", "n", "o", "none"};
        for (int i = 0; i < paths.length; i++) {
            x.find(paths[i], kept[i]);
            x.follow(paths[i], followed[i]);
        }
        x.count(0, 7);
        x.about(2, 2, 0);
    }

    private static void holdOften() {
        Check x = new Check("Promise 12: BAD: held 100 times");
        x.plain("f", 2);
        x.plain("g", 3);
        x.symlink("l", "f", 4);
        for (int times = 1; times <= 99; times++) {
            x.hold("f", 2);
        }
        x.about(2, 2, 99);
        x.hold("l", 2);
        x.about(2, 2, 100);
        x.hold("f", Check.BAD);
        x.hold("l", Check.BAD);
        x.about(2, 2, 100);
        x.hold("g", 3);
        x.release(2, 1);
        x.about(2, 2, 99);
        x.hold("f", 2);
        x.hold("f", Check.BAD);
        x.about(2, 2, 100);
    }

    private static void holdRefused() {
        Check x = new Check("Promise 12: NONE; BAD: it is no plain file");
        x.plain("f", 2);
        x.folder("d", 3);
        x.symlink("l", "d", 4);
        x.symlink("m", "none", 5);
        x.symlink("n", "/", 6);
        x.hold("none", Check.NONE);
        x.hold("m", Check.NONE);
        x.hold("d", Check.BAD);
        x.hold("l", Check.BAD);
        x.hold("n", Check.BAD);
        x.hold("", Check.BAD);
        x.hold("d/..", Check.BAD);
        x.about(3, 2, 0);
        x.hold("d/../f", 2);
        x.about(2, 2, 1);
        x.about(4, 2, 1);
        x.about(4, 0, 3);
    }

    private static void heldWithoutName() {
        Check x = new Check("A file that has no names and is not held is there no more; a held one is");
        x.plain("f", 2);
        x.hold("f", 2);
        x.hold("f", 2);
        x.remove("f", 2);
        x.find("f", Check.NONE);
        x.hold("f", Check.NONE);
        x.about(2, 0, 1);
        x.about(2, 1, 0);
        x.about(2, 2, 2);
        x.about(2, 3, 1);
        x.about(2, 4, 0);
        x.count(0, 2);
        x.count(1, 0);
        // Its number is not free, its name is.
        x.plain("f", 3);
        x.release(2, 0);
        x.about(2, 0, 1);
        x.about(2, 2, 1);
        x.release(2, 0);
        x.about(2, 0, Check.BAD);
        x.release(2, Check.BAD);
        x.count(0, 2);
        x.find("f", 3);
        x.plain("g", 2);
        x.about(2, 2, 0);
    }

    private static void heldWithSomeNames() {
        Check x = new Check("A file that is not held any more stays while it has a name");
        x.plain("f", 2);
        x.link("f", "g", 2);
        x.hold("g", 2);
        x.remove("f", 2);
        x.about(2, 1, 1);
        x.release(2, 1);
        x.find("g", 2);
        x.hold("g", 2);
        x.link("g", "h", 2);
        x.remove("g", 2);
        x.remove("h", 2);
        x.about(2, 2, 1);
        x.count(1, 0);
        x.release(2, 0);
        x.count(0, 1);
    }

    private static void releaseRefused() {
        Check x = new Check("Promise 13: BAD: it is not held");
        x.plain("f", 2);
        x.folder("d", 3);
        x.symlink("l", "f", 4);
        for (int file : new int[] {0, 1, 2, 3, 4, 5, 40, 41}) {
            x.release(file, Check.BAD);
        }
        for (int file : FAR) {
            x.release(file, Check.BAD);
        }
        x.hold("f", 2);
        x.release(1, Check.BAD);
        x.release(3, Check.BAD);
        x.about(2, 2, 1);
        x.release(2, 1);
        x.release(2, Check.BAD);
        x.about(2, 2, 0);
        x.about(2, 0, 1);
    }

    private static void releaseTellsNames() {
        Check x = new Check("Promise 13: held once less: how many names it has");
        x.plain("f", 2);
        for (int times = 0; times < 6; times++) {
            x.hold("f", 2);
        }
        x.release(2, 1);
        x.link("f", "g", 2);
        x.release(2, 2);
        x.link("f", "h", 2);
        x.release(2, 3);
        x.about(2, 2, 3);
        x.remove("f", 2);
        x.remove("g", 2);
        x.release(2, 1);
        x.remove("h", 2);
        x.release(2, 0);
        x.about(2, 2, 1);
        x.release(2, 0);
        x.about(2, 2, Check.BAD);
    }

    private static void folderGoesWithItsName() {
        Check x = new Check("A folder goes with its name");
        x.folder("a", 2);
        x.folder("b", 3);
        x.plain("b/f", 4);
        x.rename("b", "a", 3);
        x.about(2, 0, Check.BAD);
        x.find("a/f", 4);
        x.remove("a/f", 4);
        x.removeFolder("a", 3);
        x.about(3, 0, Check.BAD);
        x.count(0, 1);
        x.count(1, 0);
    }

    private static void aboutNumbers() {
        Check x = new Check("Promise 14: BAD: there is no such file, or number");
        x.plain("f", 2);
        x.folder("d", 3);
        x.symlink("l", "f", 4);
        for (int file = 1; file <= 4; file++) {
            x.about(file, -1, Check.BAD);
            x.about(file, 5, Check.BAD);
            for (int what : FAR) {
                x.about(file, what, Check.BAD);
            }
        }
        for (int what = -1; what <= 5; what++) {
            for (int file : new int[] {0, 5, 40, 41, -1, Integer.MAX_VALUE, Integer.MIN_VALUE}) {
                x.about(file, what, Check.BAD);
            }
        }
    }

    private static void aboutKindAndNames() {
        Check x = new Check("Promise 14: kind, names, what it holds, room");
        x.plain("f", 2);
        x.folder("d", 3);
        x.symlink("d/l", "t".repeat(60), 4);
        x.link("f", "d/g", 2);
        x.hold("f", 2);
        int[][] want = {{2, 3, 2, 1, 1}, {1, 2, 1, 1, 0}, {2, 2, 2, 1, 1}, {3, 1, 60, 1, 0}};
        for (int file = 1; file <= 4; file++) {
            for (int what = 0; what <= 4; what++) {
                x.about(file, what, want[file - 1][what]);
            }
        }
    }

    private static void aboutFolders() {
        Check x = new Check("Promise 14: a folder: 2 and how many folders are in it");
        x.about(1, 1, 2);
        x.folder("a", 2);
        x.about(1, 1, 3);
        x.about(2, 1, 2);
        x.plain("a/f", 3);
        x.symlink("a/l", "/a", 4);
        x.about(2, 1, 2);
        x.folder("a/b", 5);
        x.about(2, 1, 3);
        // Those in the folders in it are not in it.
        x.folder("a/b/c", 6);
        x.about(1, 1, 3);
        x.about(2, 1, 3);
        x.about(5, 1, 3);
        x.about(6, 1, 2);
        x.rename("a/b/c", "a/c", 6);
        x.about(2, 1, 4);
        x.about(5, 1, 2);
        x.rename("a/c", "a/b", 6);
        x.about(5, 0, Check.BAD);
        x.about(2, 1, 3);
        x.removeFolder("a/b", 6);
        x.about(2, 1, 2);
        x.about(2, 2, 2);
        Check y = new Check("Promise 14: as many folders as there can be");
        y.room(200, 199);
        for (int folder = 2; folder <= 40; folder++) {
            y.folder("d" + folder, folder);
        }
        y.about(1, 1, 41);
        y.about(1, 2, 39);
        y.about(40, 1, 2);
        y.about(40, 4, 1);
    }

    private static void aboutParents() {
        Check x = new Check("Promise 14: of a folder the one in which it is (of the root 1), of others 0");
        x.about(1, 4, 1);
        x.folder("a", 2);
        x.folder("a/b", 3);
        x.folder("a/b/c", 4);
        x.plain("a/b/f", 5);
        x.symlink("a/b/l", "c", 6);
        x.about(2, 4, 1);
        x.about(3, 4, 2);
        x.about(4, 4, 3);
        x.about(5, 4, 0);
        x.about(6, 4, 0);
        x.rename("a/b/c", "c", 4);
        x.about(4, 4, 1);
        x.rename("a/b", "c/b", 3);
        x.about(3, 4, 4);
        x.rename("c/b", "c/d", 3);
        x.about(3, 4, 4);
        x.about(1, 4, 1);
    }

    private static void targetBytes() {
        Check x = new Check("Promise 15: byte i of the target of a link; BAD: it has no such byte");
        x.symlink("l", "abc", 2);
        x.targetByte(2, 0, 'a');
        x.targetByte(2, 1, 'b');
        x.targetByte(2, 2, 'c');
        x.targetByte(2, 3, Check.BAD);
        x.targetByte(2, 59, Check.BAD);
        for (int i : FAR) {
            x.targetByte(2, i, Check.BAD);
        }
        x.symlink("m", "\u0001\u007F\u0080\u00FF", 3);
        x.targetByte(3, 0, 1);
        x.targetByte(3, 1, 127);
        x.targetByte(3, 2, 128);
        x.targetByte(3, 3, 255);
        x.targetByte(3, 4, Check.BAD);
        x.symlink("n", "x" + "y".repeat(998) + "z", 4);
        x.targetByte(4, 0, 'x');
        x.targetByte(4, 1, 'y');
        x.targetByte(4, 998, 'y');
        x.targetByte(4, 999, 'z');
        x.targetByte(4, 1000, Check.BAD);
        // The target is told as it was typed, with what is left out when it is gone through.
        x.symlink("o", "//./", 5);
        x.about(5, 2, 4);
        x.targetByte(5, 1, '/');
        x.targetByte(5, 2, '.');
        x.targetByte(5, 3, '/');
        // A shorter target in the place of a longer one has no byte of it.
        x.remove("n", 4);
        x.symlink("n", "q", 4);
        x.targetByte(4, 0, 'q');
        x.targetByte(4, 1, Check.BAD);
        x.targetByte(4, 999, Check.BAD);
    }

    private static void targetBytesOfOthers() {
        Check x = new Check("Promise 15: BAD: it is none");
        x.symlink("l", "abc", 2);
        x.plain("f", 3);
        x.folder("d", 4);
        for (int file : new int[] {0, 1, 3, 4, 5, 40, 41}) {
            x.targetByte(file, 0, Check.BAD);
        }
        for (int file : FAR) {
            x.targetByte(file, 0, Check.BAD);
        }
        x.remove("l", 2);
        x.targetByte(2, 0, Check.BAD);
        x.plain("l", 2);
        x.targetByte(2, 0, Check.BAD);
        x.remove("l", 2);
        x.folder("l", 2);
        x.targetByte(2, 0, Check.BAD);
    }

    private static void counts() {
        Check x = new Check("Promise 16: files, names in all, bytes on the tape, how much all files take");
        x.plain("f", 2);
        x.folder("d", 3);
        x.link("f", "d/f", 2);
        x.symlink("d/l", "t".repeat(60), 4);
        x.symlink("d/m", "t", 5);
        x.count(0, 5);
        x.count(1, 5);
        x.count(2, 0);
        x.count(3, 4);
        x.link("f", "d/n", 2);
        x.count(0, 5);
        x.count(1, 6);
        x.count(3, 7);
        x.fill('x', 1200, 1200);
        x.count(2, 1200);
        x.due("find", x.tree.find(false), Check.LONG);
        x.count(2, 0);
        x.hold("f", 2);
        x.remove("f", 2);
        x.remove("d/f", 2);
        x.remove("d/n", 2);
        x.count(0, 5);
        x.count(1, 3);
        x.count(3, 7);
        x.release(2, 0);
        x.count(0, 4);
        x.count(3, 6);
    }

    private static void countNumbers() {
        Check x = new Check("Promise 16: BAD: another number");
        x.count(-1, Check.BAD);
        x.count(4, Check.BAD);
        for (int what : FAR) {
            x.count(what, Check.BAD);
        }
        x.count(0, 1);
        x.count(3, 1);
    }
}
