/** The edges of promise 10, rename: each method holds one sentence of it. */
public final class EdgeRenameTest {
    public static void main(String[] args) {
        nameGoes();
        noneFirst();
        sameFile();
        sameFileThoughRefusedOtherwise();
        insideAtOnce();
        insideAtAnyDepth();
        notInside();
        insideBeforeTheOthers();
        notFolder();
        folder();
        notEmpty();
        thatNameGoesBefore();
        replacedFileStays();
        noMoreAtOnce();
        overANameIsNoMoreAtOnce();
        fullByOne();
        noRoomIsWonBefore();
        roomOfTheOldFolderStays();
        heldOnesMove();
        throughItself();
        Check.end();
    }

    private static void nameGoes() {
        String[] to = {"b", "d/b", "d/e/b", "./b/", "d/../b", "b/."};
        for (String path : to) {
            Check x = new Check("The first one's name goes, and then its file gets the second one, " + path);
            x.plain("a", 2);
            x.folder("d", 3);
            x.folder("d/e", 4);
            x.rename("a", path, 2);
            x.find("a", Check.NONE);
            x.find(path, 2);
            x.about(2, 1, 1);
            x.count(0, 4);
            x.count(1, 3);
            x.rename(path, "a", 2);
            x.find(path, Check.NONE);
            x.find("a", 2);
        }
        Check x = new Check("One name of several moves, the others stay");
        x.symlink("a", "t", 2);
        x.link("a", "b", 2);
        x.link("a", "c", 2);
        x.rename("b", "d", 2);
        x.find("a", 2);
        x.find("b", Check.NONE);
        x.find("c", 2);
        x.find("d", 2);
        x.about(2, 1, 3);
    }

    private static void noneFirst() {
        Check x = new Check("NONE: the first is not there");
        x.plain("f", 2);
        x.folder("d", 3);
        x.rename("none", "a", Check.NONE);
        x.rename("none", "none", Check.NONE);
        x.rename("none", "f", Check.NONE);
        x.rename("none", "d", Check.NONE);
        x.rename("d/none", "d/a", Check.NONE);
        x.rename("none", "d/none", Check.NONE);
        x.rename("f", "none", 2);
        x.rename("f", "f", Check.NONE);
        x.count(1, 2);
    }

    private static void sameFile() {
        Check x = new Check("If both are names of the same file: nothing happens, its number");
        x.plain("a", 2);
        x.link("a", "b", 2);
        x.folder("d", 3);
        x.link("a", "d/c", 2);
        x.symlink("l", "a", 4);
        x.link("l", "d/l", 4);
        String before = x.state();
        x.rename("a", "b", 2);
        x.rename("b", "a", 2);
        x.rename("a", "d/c", 2);
        x.rename("d/c", "a", 2);
        x.rename("a", "a", 2);
        x.rename("d", "d", 3);
        x.rename("d", "d/", 3);
        x.rename("d", "/d/../d", 3);
        x.rename("l", "d/l", 4);
        x.rename("l", "l", 4);
        x.same("the state", x.state(), before);
        for (String path : new String[] {"a", "b", "d/c"}) {
            x.find(path, 2);
        }
        x.find("l", 4);
        x.find("d/l", 4);
        // A link and what it leads to are two files.
        x.rename("l", "a", 4);
        x.find("a", 4);
        x.find("l", Check.NONE);
        x.about(2, 1, 2);
    }

    private static void sameFileThoughRefusedOtherwise() {
        Check x = new Check("The same folder: neither INSIDE nor NOT_EMPTY nor FULL");
        x.folder("d", 2);
        x.plain("d/f", 3);
        x.link("d/f", "d/g", 3);
        x.room(3, 0);
        x.rename("d", "d", 2);
        x.rename("d/f", "d/g", 3);
        x.find("d/f", 3);
        x.find("d/g", 3);
        x.folder("d/e", Check.FULL);
    }

    private static void insideAtOnce() {
        Check x = new Check("INSIDE: it is a folder, and the second one's folder is it");
        x.folder("d", 2);
        x.rename("d", "d/x", Check.INSIDE);
        x.rename("d", "d/d", Check.INSIDE);
        x.plain("d/f", 3);
        x.rename("d", "d/f", Check.INSIDE);
        x.rename("d", "d/x", Check.INSIDE);
        x.symlink("l", "d", 4);
        x.rename("d", "l/x", Check.INSIDE);
        x.symlink("d/m", ".", 5);
        x.rename("d", "d/m/x", Check.INSIDE);
        x.find("d/f", 3);
        x.count(1, 4);
    }

    private static void insideAtAnyDepth() {
        Check x = new Check("INSIDE: or in it, at any depth");
        StringBuilder path = new StringBuilder();
        for (int folder = 2; folder <= 40; folder++) {
            path.append("d/");
            x.folder(path.toString(), folder);
        }
        x.rename("d", path + "x", Check.INSIDE);
        x.rename("d/d", path + "x", Check.INSIDE);
        x.rename("d", path.toString(), Check.INSIDE);
        x.rename(path.substring(0, 76), path + "x", Check.INSIDE);
        x.rename(path.toString(), path + "x", Check.INSIDE);
        x.about(2, 4, 1);
        x.about(40, 4, 39);
        // The deepest one may go up to where it is in none of the others.
        x.rename(path.toString(), "x", 40);
        x.rename("d", "x/d", 2);
        x.about(2, 4, 40);
        x.rename("x", "x/" + path.substring(0, 74) + "y", Check.INSIDE);
    }

    private static void notInside() {
        Check x = new Check("Not INSIDE: beside it, around it, or no folder");
        x.folder("a", 2);
        x.folder("ab", 3);
        x.folder("a/a", 4);
        x.folder("a/a/a", 5);
        x.rename("a/a/a", "a/b", 5);
        x.rename("a/b", "a/a/a", 5);
        x.rename("a/a/a", "c", 5);
        x.rename("c", "a/a/a", 5);
        x.rename("a", "ab/a", 2);
        x.rename("ab/a", "a", 2);
        x.rename("a", "a/../b", 2);
        x.symlink("b/l", "/", 6);
        // It is the folder that counts, not the way to it.
        x.rename("b", "b/l/c", 2);
        x.plain("f", 7);
        x.rename("f", "f/x", Check.NOT_FOLDER);
        x.symlink("l", "c", 8);
        x.rename("l", "l/m", 8);
        x.find("c/m", 8);
    }

    private static void insideBeforeTheOthers() {
        Check x = new Check("INSIDE comes before NOT_FOLDER, NOT_EMPTY and FULL");
        x.folder("d", 2);
        x.plain("d/f", 3);
        x.folder("d/e", 4);
        x.folder("d/e/g", 5);
        x.symlink("d/e/l", "t", 6);
        x.link("d/e/l", "d/e/m", 6);
        x.room(5, 0);
        x.rename("d", "d/f", Check.INSIDE);
        x.rename("d", "d/e", Check.INSIDE);
        x.rename("d", "d/e/g", Check.INSIDE);
        x.rename("d", "d/e/l", Check.INSIDE);
        // This name would be the fourth in e.
        x.rename("d", "d/e/n", Check.INSIDE);
        x.rename("d/f", "d/e/n", Check.FULL);
    }

    private static void notFolder() {
        Check x = new Check("NOT_FOLDER: the first is a folder, and the second is there and none");
        x.folder("d", 2);
        x.plain("f", 3);
        x.symlink("l", "e", 4);
        x.folder("e", 5);
        x.rename("d", "f", Check.NOT_FOLDER);
        x.rename("d", "l", Check.NOT_FOLDER);
        x.rename("d", "l/", Check.NOT_FOLDER);
        x.plain("d/g", 6);
        x.rename("d", "f", Check.NOT_FOLDER);
        x.rename("e", "d/g", Check.NOT_FOLDER);
        x.count(0, 6);
        x.count(1, 5);
    }

    private static void folder() {
        Check x = new Check("FOLDER: the other way round");
        x.folder("d", 2);
        x.plain("f", 3);
        x.symlink("l", "d", 4);
        x.rename("f", "d", Check.FOLDER);
        x.rename("l", "d", Check.FOLDER);
        x.plain("d/g", 5);
        // Before NOT_EMPTY.
        x.rename("f", "d", Check.FOLDER);
        x.rename("d/g", "d", Check.FOLDER);
        x.count(0, 5);
        x.count(1, 4);
    }

    private static void notEmpty() {
        Check x = new Check("NOT_EMPTY: it is a folder with names");
        x.folder("a", 2);
        x.folder("b", 3);
        x.plain("b/f", 4);
        x.folder("b/c", 5);
        x.rename("a", "b", Check.NOT_EMPTY);
        x.rename("b/c", "b", Check.NOT_EMPTY);
        x.remove("b/f", 4);
        x.rename("a", "b", Check.NOT_EMPTY);
        x.removeFolder("b/c", 5);
        x.rename("a", "b", 2);
        x.about(3, 0, Check.BAD);
        x.find("b", 2);
        x.find("a", Check.NONE);
        // The first may have names.
        x.plain("b/f", 3);
        x.folder("a", 4);
        x.rename("b", "a", 2);
        x.find("a/f", 3);
        x.about(4, 0, Check.BAD);
    }

    private static void thatNameGoesBefore() {
        Check x = new Check("Otherwise that name goes before, and its file with its last name");
        x.plain("a", 2);
        x.plain("b", 3);
        x.symlink("l", "a", 4);
        x.symlink("m", "a", 5);
        x.rename("a", "b", 2);
        x.about(3, 0, Check.BAD);
        x.rename("l", "m", 4);
        x.about(5, 0, Check.BAD);
        x.find("m", 4);
        x.rename("b", "m", 2);
        x.about(4, 0, Check.BAD);
        x.symlink("l", "m", 3);
        x.rename("l", "m", 3);
        x.about(2, 0, Check.BAD);
        x.about(3, 0, 3);
        x.follow("m", Check.LOOP);
        x.count(0, 2);
        x.count(1, 1);
        x.plain("c", 2);
    }

    private static void replacedFileStays() {
        Check x = new Check("That name goes before; its file stays by another name, or held");
        x.plain("a", 2);
        x.plain("b", 3);
        x.link("b", "c", 3);
        x.rename("a", "b", 2);
        x.find("c", 3);
        x.about(3, 1, 1);
        x.hold("c", 3);
        x.rename("b", "c", 2);
        x.about(3, 0, 1);
        x.about(3, 1, 0);
        x.about(3, 2, 1);
        x.count(0, 3);
        x.count(1, 1);
        x.release(3, 0);
        x.count(0, 2);
        x.find("c", 2);
    }

    private static void noMoreAtOnce() {
        for (int names = 1; names <= 5; names++) {
            Check x = new Check("Names in one folder are no more at once; names " + names);
            int takes = names > 3 ? names : 1;
            x.folder("d", 2);
            x.symlink("d/0", "t", 3);
            for (int name = 1; name < names; name++) {
                x.link("d/0", "d/" + name, 3);
            }
            x.about(2, 3, takes);
            x.room(1 + takes, 0);
            x.rename("d/0", "d/new", 3);
            x.about(2, 2, names);
            x.about(2, 3, takes);
            x.count(3, 1 + takes);
        }
        Check x = new Check("Names in the root are no more at once");
        x.plain("a", 2);
        x.plain("b", 3);
        x.plain("c", 4);
        x.room(4, 0);
        x.rename("a", "d", 2);
        x.rename("b", "d/../e", Check.NOT_FOLDER);
        x.rename("b", "./e", 3);
        x.count(3, 4);
    }

    private static void overANameIsNoMoreAtOnce() {
        Check x = new Check("Over a name: that one goes before, so there are no more at once");
        x.folder("d", 2);
        x.symlink("d/a", "t", 3);
        x.symlink("d/b", "t", 4);
        x.symlink("d/c", "t", 5);
        x.plain("f", 6);
        x.room(3, 0);
        x.rename("f", "d/c", 6);
        x.about(2, 3, 1);
        x.about(2, 2, 3);
        x.about(5, 0, Check.BAD);
        x.rename("d/a", "d/b", 3);
        x.about(2, 2, 2);
        x.about(2, 3, 1);
        x.rename("d/c", "d/e", 6);
        x.about(2, 2, 2);
        x.count(3, 3);
    }

    private static void fullByOne() {
        int[] growth = {0, 0, 0, 3, 1, 1};
        for (int names = 0; names < growth.length; names++) {
            Check x = new Check("FULL: by what takes room; names before " + names);
            x.folder("d", 2);
            x.folder("e", 3);
            x.symlink("l", "t", 4);
            for (int name = 0; name < names; name++) {
                x.link("l", "d/" + name, 4);
            }
            int taken = x.tree.count(3);
            if (growth[names] > 0) {
                x.room(taken + growth[names] - 1, growth[names] - 1);
                x.rename("e", "d/e", Check.FULL);
                x.rename("l", "d/e", Check.FULL);
                x.find("e", 3);
                x.find("l", 4);
                x.about(3, 4, 1);
                x.count(3, taken);
            }
            x.room(taken + growth[names], growth[names]);
            x.rename("e", "d/e", 3);
            x.about(3, 4, 2);
            x.count(3, taken + growth[names]);
            x.about(2, 2, names + 1);
        }
    }

    private static void noRoomIsWonBefore() {
        Check x = new Check("FULL: what the replaced file took counts as gone behind the call");
        x.folder("d", 2);
        x.folder("e", 3);
        x.plain("f", 4);
        x.room(4, 0);
        x.rename("d", "e", 2);
        x.count(3, 3);
        x.plain("g", 3);
        x.rename("f", "g", 4);
        x.count(3, 3);
        x.rename("g", "e/g", 4);
        x.rename("e/g", "g", 4);
        x.count(3, 3);
    }

    private static void roomOfTheOldFolderStays() {
        Check x = new Check("The folder that loses the name takes as before");
        x.folder("d", 2);
        x.symlink("d/a", "t", 3);
        x.link("d/a", "d/b", 3);
        x.link("d/a", "d/c", 3);
        x.link("d/a", "d/d", 3);
        x.about(2, 3, 4);
        x.rename("d/d", "d2", 3);
        x.rename("d/c", "c", 3);
        x.about(2, 3, 4);
        x.about(2, 2, 2);
        x.rename("c", "d/c", 3);
        x.rename("d2", "d/d", 3);
        x.about(2, 3, 4);
        x.count(3, 5);
    }

    private static void heldOnesMove() {
        Check x = new Check("A held file moves, and stays held");
        x.plain("a", 2);
        x.hold("a", 2);
        x.hold("a", 2);
        x.folder("d", 3);
        x.rename("a", "d/a", 2);
        x.about(2, 2, 2);
        x.about(2, 1, 1);
        x.release(2, 1);
        x.release(2, 1);
        x.release(2, Check.BAD);
        x.find("d/a", 2);
    }

    private static void throughItself() {
        Check x = new Check("A path may lead through the link that goes");
        x.folder("d", 2);
        x.plain("d/f", 3);
        x.symlink("l", "d", 4);
        x.rename("l/f", "l", 3);
        x.find("l", 3);
        x.about(4, 0, Check.BAD);
        x.about(2, 2, 0);
        x.symlink("m", "d", 4);
        x.rename("m", "m/n", 4);
        x.find("d/n", 4);
        x.find("m", Check.NONE);
        x.follow("d/n", Check.NONE);
    }
}
