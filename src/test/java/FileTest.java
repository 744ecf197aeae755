/** Promises 5 to 9 and 11 to 16: what single files get and lose, and what is told of them. */
public final class FileTest {
    public static void main(String[] args) {
        make();
        leastNumber();
        link();
        symlink();
        remove();
        removeFolder();
        find();
        hold();
        release();
        about();
        targetByte();
        count();
        manyFiles();
        manyNames();
        folderRoom();
        linkRoom();
        Check.end();
    }

    private static void make() {
        Check x = new Check("promise 5");
        for (int kind : new int[] {0, 3, 4, -1, Integer.MAX_VALUE, Integer.MIN_VALUE}) {
            x.tape("a");
            x.due("make " + kind, x.tree.make(kind), Check.BAD);
            x.count(2, 0);
        }
        x.plain("a", 2);
        x.folder("d", 3);
        x.about(2, 0, 1);
        x.about(3, 0, 2);
        x.plain("a", Check.THERE);
        x.folder("a", Check.THERE);
        x.plain("d", Check.THERE);
        x.folder("d", Check.THERE);
        x.plain("d/a", 4);
        x.folder("d/d", 5);
        x.room(6, 1);
        x.room(5, 0);
        x.plain("b", Check.FULL);
        x.folder("b", Check.FULL);
        x.plain("a", Check.THERE);
        x.count(0, 5);
        x.count(1, 4);
        x.room(6, 1);
        x.folder("b", 6);
        x.count(3, 6);
    }

    private static void leastNumber() {
        Check x = new Check("the least number");
        x.plain("a", 2);
        x.folder("b", 3);
        x.symlink("c", "a", 4);
        x.plain("d", 5);
        x.removeFolder("b", 3);
        x.remove("a", 2);
        x.remove("c", 4);
        x.folder("e", 2);
        x.plain("f", 3);
        x.symlink("g", "e", 4);
        x.plain("h", 6);
        x.about(2, 0, 2);
        x.about(3, 0, 1);
        x.about(4, 0, 3);
        x.about(2, 4, 1);
        x.about(3, 4, 0);
        x.targetByte(4, 0, 'e');
        x.about(4, 2, 1);
    }

    private static void link() {
        Check x = new Check("promise 6");
        x.plain("a", 2);
        x.folder("d", 3);
        x.symlink("l", "a", 4);
        x.link("a", "d/b", 2);
        x.about(2, 1, 2);
        x.link("l", "k", 4);
        x.about(4, 1, 2);
        x.about(2, 1, 2);
        x.find("d/b", 2);
        x.find("k", 4);
        x.follow("k", 2);
        x.link("none", "n", Check.NONE);
        x.link("none", "a", Check.NONE);
        x.link("d", "n", Check.FOLDER);
        x.link("d", "a", Check.FOLDER);
        x.link("", "n", Check.FOLDER);
        x.link("a", "d/b", Check.THERE);
        x.link("a", "a", Check.THERE);
        x.link("a", "d", Check.THERE);
        x.link("a", "l", Check.THERE);
        x.about(1, 2, 4);
        x.room(7, 1);
        x.link("a", "n", 2);
        x.link("a", "m", Check.FULL);
        x.link("a", "d", Check.THERE);
        x.link("a", "d/c", 2);
        x.link("a", "d/e", 2);
        x.link("a", "d/f", Check.FULL);
        x.about(2, 1, 5);
        x.about(2, 3, 1);
    }

    private static void symlink() {
        Check x = new Check("promise 7");
        x.symlink("l", "", Check.BAD);
        x.symlink("l", "t", 2);
        x.about(2, 0, 3);
        x.about(2, 1, 1);
        x.symlink("l", "u", Check.THERE);
        x.targetByte(2, 0, 't');
        x.symlink("m", "t".repeat(1000), 3);
        x.about(3, 2, 1000);
        x.symlink("n", "t".repeat(1001), Check.BAD);
        x.symlink("l", "t".repeat(1001), Check.BAD);
        x.symlink("l", "", Check.BAD);
        x.symlink("", "", Check.BAD);
        x.symlink("", "t", Check.BAD);
        x.symlink("..", "t", Check.BAD);
        x.symlink("x/l", "t", Check.NONE);
        x.symlink("l/l", "t", Check.NONE);
        x.symlink("n", "t".repeat(1197), Check.BAD);
        x.symlink("n", "\u00FF/\u0001//..", 4);
        x.about(4, 2, 7);
        x.room(2, 0);
        x.symlink("o", "t", Check.FULL);
        x.symlink("l", "t", Check.THERE);
    }

    private static void remove() {
        Check x = new Check("promise 8");
        x.plain("a", 2);
        x.link("a", "b", 2);
        x.folder("d", 3);
        x.symlink("l", "a", 4);
        x.remove("none", Check.NONE);
        x.remove("d", Check.FOLDER);
        x.remove("a", 2);
        x.find("a", Check.NONE);
        x.about(2, 1, 1);
        x.find("b", 2);
        x.remove("l", 4);
        x.about(4, 0, Check.BAD);
        x.remove("b", 2);
        x.about(2, 0, Check.BAD);
        x.remove("b", Check.NONE);
        x.count(0, 2);
        x.count(1, 1);
        x.plain("d/x", 2);
        x.plain("d/y", 4);
        x.plain("d/z", 5);
        x.remove("d/y", 4);
        x.find("d/x", 2);
        x.find("d/z", 5);
        x.about(3, 2, 2);
        x.remove("d/x", 2);
        x.find("d/z", 5);
        x.remove("d/z", 5);
        x.about(3, 2, 0);
    }

    private static void removeFolder() {
        Check x = new Check("promise 9");
        x.folder("a", 2);
        x.folder("a/b", 3);
        x.plain("f", 4);
        x.symlink("l", "a/b", 5);
        x.removeFolder("none", Check.NONE);
        x.removeFolder("f", Check.NOT_FOLDER);
        x.removeFolder("l", Check.NOT_FOLDER);
        x.removeFolder("a", Check.NOT_EMPTY);
        x.removeFolder("/", Check.BAD);
        x.removeFolder("a/..", Check.BAD);
        x.removeFolder("a/b", 3);
        x.about(3, 0, Check.BAD);
        x.about(2, 1, 2);
        x.follow("l", Check.NONE);
        x.removeFolder("a", 2);
        x.about(2, 0, Check.BAD);
        x.count(0, 3);
        x.count(1, 2);
        x.count(3, 2);
        x.folder("a", 2);
        x.about(2, 2, 0);
    }

    private static void find() {
        Check x = new Check("promise 11");
        x.find("", 1);
        x.follow("", 1);
        x.folder("d", 2);
        x.plain("d/f", 3);
        x.symlink("l", "d/f", 4);
        x.find("d", 2);
        x.follow("d", 2);
        x.find("l", 4);
        x.follow("l", 3);
        x.find("none", Check.NONE);
        x.follow("none", Check.NONE);
        x.follow("d/none", Check.NONE);
        x.find("d/f/x", Check.NOT_FOLDER);
    }

    private static void hold() {
        Check x = new Check("promise 12");
        x.plain("f", 2);
        x.folder("d", 3);
        x.symlink("l", "f", 4);
        x.symlink("k", "d", 5);
        x.hold("f", 2);
        x.about(2, 2, 1);
        x.hold("l", 2);
        x.about(2, 2, 2);
        x.hold("none", Check.NONE);
        x.hold("d", Check.BAD);
        x.hold("k", Check.BAD);
        x.hold("", Check.BAD);
        for (int i = 2; i < 100; i++) {
            x.hold("f", 2);
        }
        x.about(2, 2, 100);
        x.hold("f", Check.BAD);
        x.hold("l", Check.BAD);
        x.about(2, 2, 100);
        x.release(2, 1);
        x.hold("l", 2);
        x.hold("f", Check.BAD);
    }

    private static void release() {
        Check x = new Check("promise 13");
        x.plain("f", 2);
        x.link("f", "g", 2);
        x.folder("d", 3);
        x.symlink("l", "f", 4);
        for (int file : new int[] {0, 1, 2, 3, 4, 5, 40, 41, -1, Integer.MAX_VALUE, Integer.MIN_VALUE}) {
            x.release(file, Check.BAD);
        }
        x.hold("f", 2);
        x.hold("f", 2);
        x.release(2, 2);
        x.remove("g", 2);
        x.release(2, 1);
        x.release(2, Check.BAD);
        x.find("f", 2);
        x.hold("f", 2);
        x.hold("f", 2);
        x.remove("f", 2);
        x.find("f", Check.NONE);
        x.count(0, 4);
        // The root once had four names; the held file takes 1 without a name.
        x.count(3, 6);
        x.about(2, 0, 1);
        x.about(2, 1, 0);
        x.about(2, 2, 2);
        x.plain("h", 5);
        x.release(2, 0);
        x.about(2, 2, 1);
        x.count(0, 5);
        x.release(2, 0);
        x.count(0, 4);
        x.about(2, 0, Check.BAD);
        x.release(2, Check.BAD);
        x.plain("f", 2);
        x.about(2, 2, 0);
        x.release(2, Check.BAD);
    }

    private static void about() {
        Check x = new Check("promise 14");
        x.folder("a", 2);
        x.folder("a/b", 3);
        x.folder("a/b/c", 4);
        x.plain("a/f", 5);
        x.symlink("a/l", "b", 6);
        x.folder("a/d", 7);
        x.about(1, 1, 3);
        x.about(1, 2, 1);
        x.about(1, 4, 1);
        x.about(2, 0, 2);
        x.about(2, 1, 4);
        x.about(2, 2, 4);
        x.about(2, 3, 4);
        x.about(2, 4, 1);
        x.about(3, 1, 3);
        x.about(3, 4, 2);
        x.about(4, 1, 2);
        x.about(4, 4, 3);
        x.about(5, 0, 1);
        x.about(5, 1, 1);
        x.about(5, 2, 0);
        x.about(5, 3, 1);
        x.about(5, 4, 0);
        x.about(6, 0, 3);
        x.about(6, 1, 1);
        x.about(6, 2, 1);
        x.about(6, 3, 0);
        x.about(6, 4, 0);
        for (int number : new int[] {0, -1, 8, 40, 41, Integer.MAX_VALUE, Integer.MIN_VALUE}) {
            x.about(number, 0, Check.BAD);
        }
        for (int what : new int[] {-1, 5, Integer.MAX_VALUE, Integer.MIN_VALUE}) {
            x.about(1, what, Check.BAD);
            x.about(5, what, Check.BAD);
        }
        x.rename("a/b", "b", 3);
        x.about(3, 4, 1);
        x.about(1, 1, 4);
        x.about(2, 1, 3);
        x.about(2, 2, 3);
        x.about(2, 3, 4);
    }

    private static void targetByte() {
        Check x = new Check("promise 15");
        x.plain("f", 2);
        x.symlink("l", "a/\u0080\u00FF\u0001", 3);
        x.targetByte(3, 0, 'a');
        x.targetByte(3, 1, '/');
        x.targetByte(3, 2, 128);
        x.targetByte(3, 3, 255);
        x.targetByte(3, 4, 1);
        for (int i : new int[] {5, 6, 999, 1000, -1, Integer.MAX_VALUE, Integer.MIN_VALUE}) {
            x.targetByte(3, i, Check.BAD);
        }
        for (int file : new int[] {0, 1, 2, 4, 40, 41, -1, Integer.MAX_VALUE, Integer.MIN_VALUE}) {
            x.targetByte(file, 0, Check.BAD);
        }
        x.remove("l", 3);
        x.targetByte(3, 0, Check.BAD);
        x.plain("g", 3);
        x.targetByte(3, 0, Check.BAD);
        x.remove("g", 3);
        x.symlink("l", "b", 3);
        x.targetByte(3, 0, 'b');
        x.targetByte(3, 1, Check.BAD);
        x.symlink("m", "x".repeat(999) + "y", 4);
        x.targetByte(4, 998, 'x');
        x.targetByte(4, 999, 'y');
        x.targetByte(4, 1000, Check.BAD);
    }

    private static void count() {
        Check x = new Check("promise 16");
        for (int what : new int[] {4, -1, Integer.MAX_VALUE, Integer.MIN_VALUE}) {
            x.count(what, Check.BAD);
        }
        x.plain("f", 2);
        x.link("f", "g", 2);
        x.symlink("l", "f", 3);
        x.symlink("m", "f".repeat(60), 4);
        x.tape("abc");
        x.count(0, 4);
        x.count(1, 4);
        x.count(2, 3);
        x.count(3, 6);
    }

    private static void manyFiles() {
        Check x = new Check("forty files");
        x.room(200, 199);
        for (int i = 2; i <= 40; i++) {
            x.plain("f" + i, i);
        }
        x.count(0, 40);
        x.count(3, 78);
        x.about(40, 0, 1);
        x.about(41, 0, Check.BAD);
        x.hold("f40", 40);
        x.release(40, 1);
        x.plain("g", Check.FULL);
        x.folder("g", Check.FULL);
        x.symlink("g", "t", Check.FULL);
        x.plain("f2", Check.THERE);
        x.link("f7", "g", 7);
        x.hold("f20", 20);
        x.remove("f20", 20);
        x.plain("h", Check.FULL);
        x.count(0, 40);
        x.release(20, 0);
        x.plain("h", 20);
        x.plain("i", Check.FULL);
    }

    private static void manyNames() {
        Check x = new Check("sixty names");
        x.room(200, 199);
        x.plain("f", 2);
        x.folder("d", 3);
        for (int i = 2; i < 60; i++) {
            x.link("f", "d/n" + i, 2);
        }
        x.count(1, 60);
        x.about(3, 2, 58);
        x.about(3, 3, 58);
        x.about(2, 1, 59);
        x.link("f", "g", Check.FULL);
        x.plain("g", Check.FULL);
        x.folder("g", Check.FULL);
        x.symlink("g", "t", Check.FULL);
        x.link("f", "d/n2", Check.THERE);
        x.rename("d", "e", 3);
        x.rename("e/n59", "f", 2);
        x.find("e/n59", 2);
        x.symlink("f", "t", Check.THERE);
        x.count(1, 60);
        x.remove("e/n2", 2);
        x.link("f", "g", 2);
        x.link("f", "h", Check.FULL);
        x.find("e/n59", 2);
        x.find("e/n3", 2);
        x.find("e/n2", Check.NONE);
        x.count(1, 60);
    }

    private static void folderRoom() {
        Check x = new Check("the room of folders");
        x.folder("d", 2);
        x.about(2, 3, 1);
        x.plain("d/a", 3);
        x.plain("d/b", 4);
        x.plain("d/c", 5);
        x.about(2, 3, 1);
        x.room(8, 3);
        x.plain("d/d", Check.FULL);
        x.link("d/a", "d/d", 3);
        x.about(2, 3, 4);
        x.count(3, 8);
        x.remove("d/d", 3);
        x.remove("d/c", 5);
        x.about(2, 3, 4);
        x.plain("d/c", 5);
        x.link("d/c", "d/d", 5);
        x.about(2, 3, 4);
        x.link("d/c", "d/e", Check.FULL);
        x.room(9, 1);
        x.link("d/c", "d/e", 5);
        x.about(2, 3, 5);
        for (String name : new String[] {"a", "b", "c", "d", "e"}) {
            x.tape("d/" + name);
            x.tree.remove();
        }
        x.about(2, 2, 0);
        x.about(2, 3, 5);
        x.count(3, 6);
        x.removeFolder("d", 2);
        x.count(3, 1);
        x.folder("d", 2);
        x.about(2, 3, 1);
        Check root = new Check("the room of the root");
        root.plain("a", 2);
        root.link("a", "b", 2);
        root.link("a", "c", 2);
        root.count(3, 2);
        root.link("a", "d", 2);
        root.count(3, 5);
        root.remove("d", 2);
        root.remove("c", 2);
        root.count(3, 5);
        root.about(1, 3, 4);
        root.link("a", "c", 2);
        root.link("a", "d", 2);
        root.link("a", "e", 2);
        root.about(1, 3, 5);
    }

    private static void linkRoom() {
        Check x = new Check("the room of links");
        x.symlink("a", "t".repeat(59), 2);
        x.symlink("b", "t".repeat(60), 3);
        x.about(2, 3, 0);
        x.about(3, 3, 1);
        x.count(3, 2);
        x.room(2, 0);
        x.symlink("c", "t".repeat(60), Check.FULL);
        x.symlink("c", "t".repeat(59), 4);
        x.count(3, 2);
        x.remove("b", 3);
        x.count(3, 1);
    }
}
