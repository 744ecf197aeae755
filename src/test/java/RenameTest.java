/** Promise 10: rename. */
public final class RenameTest {
    public static void main(String[] args) {
        moves();
        sameFile();
        inside();
        replaces();
        order();
        heldOnes();
        room();
        Check.end();
    }

    private static void moves() {
        Check x = new Check("rename moves");
        x.plain("f", 2);
        x.folder("d", 3);
        x.folder("d/e", 4);
        x.symlink("l", "d", 5);
        x.rename("f", "g", 2);
        x.find("f", Check.NONE);
        x.find("g", 2);
        x.rename("g", "l/e/h", 2);
        x.find("g", Check.NONE);
        x.find("d/e/h", 2);
        x.about(4, 2, 1);
        x.rename("d/e", "e", 4);
        x.find("e/h", 2);
        x.find("e/..", 1);
        x.about(4, 4, 1);
        x.about(3, 2, 0);
        x.rename("l", "k", 5);
        x.follow("k", 3);
        x.find("l", Check.NONE);
        x.about(5, 0, 3);
        x.link("e/h", "i", 2);
        x.rename("i", "d/i", 2);
        x.about(2, 1, 2);
        x.find("e/h", 2);
        x.find("d/i", 2);
        x.rename("none", "z", Check.NONE);
        x.rename("none", "d", Check.NONE);
        x.rename("d/../e", "d/../e2", 4);
        x.find("e2/h", 2);
        x.count(0, 5);
        x.count(1, 5);
    }

    private static void sameFile() {
        Check x = new Check("rename, both names of one file");
        x.plain("f", 2);
        x.folder("d", 3);
        x.link("f", "d/g", 2);
        x.rename("f", "d/g", 2);
        x.find("f", 2);
        x.find("d/g", 2);
        x.rename("f", "f", 2);
        x.find("f", 2);
        x.rename("d", "d", 3);
        x.rename("d", "./d/", 3);
        x.rename("d", "d/../d", 3);
        x.find("d/g", 2);
        x.symlink("l", "f", 4);
        x.link("l", "k", 4);
        x.rename("l", "k", 4);
        x.find("l", 4);
        x.find("k", 4);
        x.rename("l", "f", 4);
        x.find("f", 4);
        x.find("d/g", 2);
        x.about(2, 1, 1);
    }

    private static void inside() {
        Check x = new Check("rename, INSIDE");
        x.folder("a", 2);
        x.folder("a/b", 3);
        x.folder("a/b/c", 4);
        x.plain("a/b/f", 5);
        x.symlink("l", "a/b", 6);
        x.rename("a", "a/x", Check.INSIDE);
        x.rename("a", "a/b", Check.INSIDE);
        x.rename("a", "a/b/x", Check.INSIDE);
        x.rename("a", "a/b/c/x", Check.INSIDE);
        x.rename("a", "l/c/x", Check.INSIDE);
        x.rename("a", "a/b/f", Check.INSIDE);
        x.rename("a/b", "l/c/x", Check.INSIDE);
        x.rename("a/b", "a/x", 3);
        x.rename("a/x", "a/b", 3);
        x.rename("a", "a/../x", 2);
        x.rename("x/b/c", "x/c", 4);
        x.rename("x/c", "x/b/c", 4);
        x.rename("x/b/c", "x", Check.NOT_EMPTY);
        x.rename("x/b", "x", Check.NOT_EMPTY);
        x.rename("x/b/f", "x/b", Check.FOLDER);
        x.rename("x/b/f", "x/b/c/f", 5);
        x.rename("l", "x/l", 6);
    }

    private static void replaces() {
        Check x = new Check("rename over another");
        x.plain("f", 2);
        x.plain("g", 3);
        x.folder("d", 4);
        x.folder("e", 5);
        x.plain("e/i", 6);
        x.symlink("l", "d", 7);
        x.rename("d", "f", Check.NOT_FOLDER);
        x.rename("d", "l", Check.NOT_FOLDER);
        x.rename("f", "d", Check.FOLDER);
        x.rename("l", "d", Check.FOLDER);
        x.rename("f", "e", Check.FOLDER);
        x.rename("d", "e", Check.NOT_EMPTY);
        x.count(0, 7);
        x.rename("e", "d", 5);
        x.about(4, 0, Check.BAD);
        x.find("d/i", 6);
        x.find("e", Check.NONE);
        x.rename("f", "g", 2);
        x.about(3, 0, Check.BAD);
        x.find("g", 2);
        x.rename("g", "l", 2);
        x.about(7, 0, Check.BAD);
        x.find("l", 2);
        x.rename("l", "d/i", 2);
        x.about(6, 0, Check.BAD);
        x.about(5, 2, 1);
        x.about(1, 2, 1);
        x.count(0, 3);
        x.count(1, 2);
        x.plain("n", 3);
        x.link("n", "m", 3);
        x.rename("d/i", "n", 2);
        x.find("m", 3);
        x.about(3, 1, 1);
        x.removeFolder("d", 5);
    }

    private static void order() {
        Check x = new Check("the order in rename");
        x.folder("d", 2);
        x.folder("d/e", 3);
        x.plain("d/f", 4);
        x.plain("d/e/g", 5);
        x.rename("d", "d/f", Check.INSIDE);
        x.rename("d", "d/e", Check.INSIDE);
        x.rename("d/none", "d/e", Check.NONE);
        x.rename("d/e/g", "d", Check.FOLDER);
        x.rename("d/f", "d/e", Check.FOLDER);
        x.room(5, 0);
        x.rename("d/f", "d/e", Check.FOLDER);
        x.rename("d/e", "d/f", Check.NOT_FOLDER);
        x.rename("d/f", "d/e/g", 4);
        x.count(3, 4);
    }

    private static void heldOnes() {
        Check x = new Check("rename and held files");
        x.plain("f", 2);
        x.plain("g", 3);
        x.hold("g", 3);
        x.hold("f", 2);
        x.rename("f", "g", 2);
        x.about(2, 2, 1);
        x.about(3, 1, 0);
        x.about(3, 2, 1);
        x.count(0, 3);
        x.count(1, 1);
        x.count(3, 3);
        x.release(3, 0);
        x.count(0, 2);
        x.release(2, 1);
        x.find("g", 2);
    }

    private static void room() {
        Check x = new Check("rename and the room");
        x.folder("d", 2);
        x.plain("d/a", 3);
        x.plain("d/b", 4);
        x.plain("d/c", 5);
        x.plain("e", 6);
        x.room(8, 2);
        x.rename("e", "d/e", Check.FULL);
        x.find("e", 6);
        // In one folder, and over another name, there are no more names at once.
        x.rename("d/a", "d/z", 3);
        x.about(2, 3, 1);
        x.rename("e", "d/c", 6);
        x.about(2, 3, 1);
        x.about(5, 0, Check.BAD);
        x.rename("d/z", "d/b", 3);
        x.about(2, 2, 2);
        x.plain("p", 4);
        x.plain("q", 5);
        x.room(9, 3);
        x.rename("p", "d/p", 4);
        x.about(2, 3, 1);
        x.rename("q", "d/q", 5);
        x.count(3, 9);
        x.about(2, 3, 4);
        x.rename("d/q", "q", 5);
        x.rename("q", "d/q", 5);
        x.count(3, 9);
        x.link("d/q", "q", 5);
        x.rename("q", "d/r", Check.FULL);
        x.find("q", 5);
        x.room(10, 1);
        x.rename("q", "d/r", 5);
        x.about(2, 3, 5);
        x.count(3, 10);
    }
}
