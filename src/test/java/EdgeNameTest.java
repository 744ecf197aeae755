/** The edges of files, their numbers and names: each method holds one sentence of the document. */
public final class EdgeNameTest {
    public static void main(String[] args) {
        numbers();
        allFortyNumbers();
        kinds();
        rootStays();
        foldersHaveOneName();
        plainFileWithAllNames();
        linkWithAllNames();
        everyByteInNames();
        bytesThatAreNoNames();
        lengths();
        namesThatDifferInOneByte();
        dots();
        sixtyNames();
        sixtyNamesAndRename();
        fortyFiles();
        fortyFilesAndNames();
        leastNumber();
        refusedTakesNoNumber();
        newFileIsNew();
        Check.end();
    }

    private static void numbers() {
        Check x = new Check("Files have numbers 1 .. 40");
        for (int file : new int[] {0, 2, 40, 41, -1, -40, 1 << 8, 257, Integer.MAX_VALUE, Integer.MIN_VALUE}) {
            for (int what = 0; what < 5; what++) {
                x.about(file, what, Check.BAD);
            }
            x.release(file, Check.BAD);
            x.targetByte(file, 0, Check.BAD);
        }
        x.about(1, 0, 2);
    }

    private static void allFortyNumbers() {
        Check x = new Check("Files have numbers 1 .. 40, all of them there");
        for (int file = 2; file <= 39; file++) {
            x.symlink("l" + file, "t" + (char) (file + 60), file);
        }
        x.symlink("l40", "u", 40);
        for (int file = 2; file <= 40; file++) {
            x.about(file, 0, 3);
        }
        x.targetByte(39, 1, 39 + 60);
        x.targetByte(40, 0, 'u');
        x.targetByte(41, 0, Check.BAD);
        x.about(41, 0, Check.BAD);
        x.about(0, 0, Check.BAD);
        x.remove("l40", 40);
        x.plain("f40", 40);
        x.hold("f40", 40);
        x.release(41, Check.BAD);
        x.release(40, 1);
        x.release(40, Check.BAD);
    }

    private static void kinds() {
        Check x = new Check("Plain files (kind 1), folders (2), links (3)");
        x.plain("f", 2);
        x.folder("d", 3);
        x.symlink("l", "f", 4);
        x.about(1, 0, 2);
        x.about(2, 0, 1);
        x.about(3, 0, 2);
        x.about(4, 0, 3);
    }

    private static void rootStays() {
        Check x = new Check("File 1, the root, is a folder");
        x.symlink("l", "/", 2);
        x.folder("d", 3);
        for (String path : new String[] {"", "/", ".", "..", "d/..", "l/..", "l/.", "/.."}) {
            boolean isLink = path.equals("l/.");
            x.removeFolder(path, isLink ? Check.NOT_FOLDER : Check.BAD);
            if (!isLink) {
                x.remove(path, Check.BAD);
                x.rename(path, "d/r", Check.BAD);
                x.rename("d", path, Check.BAD);
            }
            x.follow(path, 1);
        }
        x.about(1, 0, 2);
        x.count(0, 3);
    }

    private static void foldersHaveOneName() {
        Check x = new Check("Every folder but the root has just one name");
        x.folder("d", 2);
        x.folder("d/e", 3);
        x.symlink("l", "d", 4);
        x.link("d", "n", Check.FOLDER);
        x.link("d/e", "n", Check.FOLDER);
        x.link("l/e", "n", Check.FOLDER);
        x.link("d/e/..", "n", Check.FOLDER);
        x.link("/", "n", Check.FOLDER);
        x.link("d/e", "d/e", Check.FOLDER);
        x.link("l", "n", 4);
        x.find("n", 4);
        x.count(1, 4);
    }

    private static void plainFileWithAllNames() {
        Check x = new Check("A plain file may have several names: sixty");
        x.room(61, 60);
        x.plain("n1", 2);
        for (int name = 2; name <= 60; name++) {
            x.link("n" + (name - 1), "n" + name, 2);
        }
        x.about(2, 1, 60);
        x.about(1, 2, 60);
        x.about(1, 3, 60);
        x.count(0, 2);
        x.count(1, 60);
        for (int name = 1; name <= 60; name++) {
            x.tape("n" + name);
            x.due("remove n" + name, x.tree.remove(), 2);
        }
        x.about(2, 0, Check.BAD);
        x.about(1, 2, 0);
        x.count(0, 1);
        x.count(1, 0);
        x.count(3, 60);
    }

    private static void linkWithAllNames() {
        Check x = new Check("A link may have several names: sixty");
        x.room(60, 59);
        x.symlink("n1", ".", 2);
        for (int name = 2; name <= 60; name++) {
            x.link("n1", "n" + name, 2);
        }
        x.about(2, 1, 60);
        x.link("n1", "n61", Check.FULL);
        for (int name = 2; name <= 60; name++) {
            x.tape("n" + name);
            x.due("find n" + name, x.tree.find(true), 1);
        }
        x.remove("n60", 2);
        x.about(2, 1, 59);
        x.follow("n1", 1);
    }

    private static void everyByteInNames() {
        for (int c = 1; c <= 255; c++) {
            if (c == '/' || c == '.') {
                continue;
            }
            String one = String.valueOf((char) c);
            Check x = new Check("A name is of bytes 1 .. 255 but 47; byte " + c);
            x.plain(one, 2);
            x.folder("a" + one + "b", 3);
            x.plain("a" + one + "b/" + one + one, 4);
            x.find(one, 2);
            x.find("/a" + one + "b", 3);
            x.find("a" + one + "b//./" + one + one, 4);
            x.find("a" + one + "b/" + one, Check.NONE);
            for (int bit = 1; bit < 256; bit *= 2) {
                int other = c ^ bit;
                if (other != 0 && other != '/' && other != '.') {
                    x.find(String.valueOf((char) other), Check.NONE);
                }
            }
            x.symlink(one + "l", one, 5);
            x.targetByte(5, 0, c);
            x.follow(one + "l", 2);
        }
    }

    private static void bytesThatAreNoNames() {
        Check x = new Check("A name has no byte 0 and no byte 47");
        x.plain("a\0b", Check.BAD);
        x.plain("\0", Check.BAD);
        x.plain("/", Check.BAD);
        x.plain("a/b", Check.NONE);
        x.plain("/a/", 2);
        x.find("a", 2);
        x.plain("a/b", Check.NOT_FOLDER);
        x.count(0, 2);
    }

    private static void lengths() {
        Check x = new Check("A name is 1 to 255 bytes");
        x.plain("n", 2);
        x.plain("n".repeat(255), 3);
        x.plain("n".repeat(256), Check.LONG);
        x.plain("n".repeat(254), 4);
        x.folder("m".repeat(255), 5);
        x.plain("m".repeat(255) + "/" + "m".repeat(255), 6);
        x.plain("m".repeat(255) + "/" + "m".repeat(256), Check.LONG);
        x.symlink("l".repeat(255), "m".repeat(255) + "/" + "m".repeat(255), 7);
        x.symlink("l".repeat(256), "n", Check.LONG);
        x.link("n", "k".repeat(255), 2);
        x.link("n", "k".repeat(256), Check.LONG);
        x.rename("k".repeat(255), "j".repeat(255), 2);
        x.rename("j".repeat(255), "j".repeat(256), Check.LONG);
        x.find("n", 2);
        x.find("nn", Check.NONE);
        x.find("n".repeat(253), Check.NONE);
        x.find("n".repeat(254), 4);
        x.find("n".repeat(255), 3);
        x.find("j".repeat(255), 2);
        x.follow("l".repeat(255), 6);
        x.find("l".repeat(255), 7);
        x.count(0, 7);
        x.count(1, 7);
    }

    private static void namesThatDifferInOneByte() {
        Check x = new Check("Names that differ in one byte, or in their length");
        String long254 = "x".repeat(254);
        x.plain(long254 + "a", 2);
        x.plain(long254 + "b", 3);
        x.plain("a" + long254, 4);
        x.plain("b" + long254, 5);
        x.plain(long254, 6);
        x.find(long254 + "a", 2);
        x.find(long254 + "b", 3);
        x.find("a" + long254, 4);
        x.find("b" + long254, 5);
        x.find(long254, 6);
        x.find(long254 + "c", Check.NONE);
        x.find("c" + long254, Check.NONE);
        x.remove(long254 + "a", 2);
        x.find(long254 + "a", Check.NONE);
        x.find(long254 + "b", 3);
        // A shorter name in a row that held a longer one.
        x.plain("x", 2);
        x.find("x", 2);
        x.find("xx", Check.NONE);
        x.find(long254 + "a", Check.NONE);
    }

    private static void dots() {
        Check x = new Check("A name is not . and not ..");
        x.folder("d", 2);
        for (String none : new String[] {".", "..", "d/.", "d/..", "./", "../"}) {
            boolean isFolder = none.equals("d/.");
            x.plain(none, isFolder ? Check.THERE : Check.BAD);
            x.symlink(none, "t", isFolder ? Check.THERE : Check.BAD);
        }
        int number = 3;
        for (String name : new String[] {"...", "....", ".a", "a.", "..a", "a..", ".a.", "\u002E\u00AE"}) {
            x.plain("d/" + name, number);
            x.find("d/" + name, number);
            x.find(name, Check.NONE);
            number++;
        }
        x.find("d/.", 2);
        x.find("d/..", 1);
    }

    /** Two folders, a plain file and 59 names in all. */
    private static Check fiftyNineNames(String title) {
        Check x = new Check(title);
        x.room(200, 199);
        x.folder("d", 2);
        x.folder("e", 3);
        x.plain("f", 4);
        for (int name = 4; name <= 59; name++) {
            x.link("f", (name % 2 == 0 ? "d/n" : "e/n") + name, 4);
        }
        x.count(1, 59);
        return x;
    }

    private static void sixtyNames() {
        for (int way = 0; way < 4; way++) {
            Check x = fiftyNineNames("There are at most 60 names in all, way " + way);
            switch (way) {
                case 0 -> x.plain("last", 5);
                case 1 -> x.folder("d/last", 5);
                case 2 -> x.symlink("e/last", "t", 5);
                default -> x.link("f", "last", 4);
            }
            x.count(1, 60);
            x.plain("more", Check.FULL);
            x.folder("more", Check.FULL);
            x.symlink("more", "t", Check.FULL);
            x.link("f", "d/more", Check.FULL);
            x.plain("f", Check.THERE);
            x.link("f", "d/n4", Check.THERE);
            x.find("more", Check.NONE);
            x.count(1, 60);
            x.remove("e/n5", 4);
            x.count(1, 59);
            x.folder("e/n5", way == 3 ? 5 : 6);
            x.count(1, 60);
            x.plain("more", Check.FULL);
        }
    }

    private static void sixtyNamesAndRename() {
        Check x = fiftyNineNames("There are at most 60 names in all, and rename");
        x.plain("g", 5);
        x.count(1, 60);
        x.rename("g", "h", 5);
        x.rename("h", "d/h", 5);
        x.rename("e", "d/e", 3);
        x.count(1, 60);
        x.rename("d/h", "f", 5);
        x.count(1, 59);
        x.find("f", 5);
        x.link("f", "last", 5);
        x.link("f", "more", Check.FULL);
        for (int name = 4; name <= 59; name++) {
            x.tape((name % 2 == 0 ? "d/n" : "d/e/n") + name);
            x.due("find n" + name, x.tree.find(false), 4);
        }
    }

    private static void fortyFiles() {
        for (int way = 0; way < 3; way++) {
            Check x = new Check("There are no more than 40 files, way " + way);
            x.room(200, 199);
            for (int file = 2; file <= 39; file++) {
                x.plain("f" + file, file);
            }
            switch (way) {
                case 0 -> x.plain("last", 40);
                case 1 -> x.folder("last", 40);
                default -> x.symlink("last", "t", 40);
            }
            x.count(0, 40);
            x.plain("more", Check.FULL);
            x.folder("more", Check.FULL);
            x.symlink("more", "t", Check.FULL);
            x.plain("last", Check.THERE);
            x.count(0, 40);
            x.count(1, 39);
            x.remove("f2", 2);
            x.count(0, 39);
            x.symlink("more", "t", 2);
            x.plain("most", Check.FULL);
        }
    }

    private static void fortyFilesAndNames() {
        Check x = new Check("There are no more than 40 files, but names for them");
        x.room(200, 199);
        for (int file = 2; file <= 40; file++) {
            x.plain("f" + file, file);
        }
        x.link("f40", "g", 40);
        x.rename("g", "h", 40);
        x.hold("f2", 2);
        x.remove("f2", 2);
        // It has no name, but is there.
        x.count(0, 40);
        x.count(1, 39);
        x.plain("more", Check.FULL);
        x.rename("f3", "f4", 3);
        x.count(0, 39);
        x.plain("more", 4);
        x.plain("most", Check.FULL);
        x.release(2, 0);
        x.plain("most", 2);
    }

    private static void leastNumber() {
        Check x = new Check("A new file has the least number that is not there");
        for (int file = 2; file <= 9; file++) {
            x.plain("f" + file, file);
        }
        x.remove("f9", 9);
        x.remove("f5", 5);
        x.remove("f2", 2);
        x.folder("a", 2);
        x.symlink("b", "a", 5);
        x.plain("c", 9);
        x.plain("d", 10);
        // By rename over it, by the last release, and by removeFolder.
        x.rename("f3", "f4", 3);
        x.hold("f6", 6);
        x.remove("f6", 6);
        x.removeFolder("a", 2);
        x.plain("e", 2);
        x.plain("f", 4);
        x.plain("g", 11);
        x.release(6, 0);
        x.plain("h", 6);
        x.plain("i", 12);
    }

    private static void refusedTakesNoNumber() {
        Check x = new Check("What is refused takes no number");
        x.plain("a", 2);
        x.plain("a", Check.THERE);
        x.plain("b/c", Check.NONE);
        x.folder("a/c", Check.NOT_FOLDER);
        x.symlink("a", "t", Check.THERE);
        x.symlink("b", "", Check.BAD);
        x.room(2, 0);
        x.plain("b", Check.FULL);
        x.folder("b", Check.FULL);
        x.symlink("b", "t".repeat(60), Check.FULL);
        x.room(3, 1);
        x.plain("b", 3);
    }

    private static void newFileIsNew() {
        Check x = new Check("A new file has nothing of the one that had its number");
        x.symlink("l", "t".repeat(60), 2);
        x.remove("l", 2);
        x.folder("d", 2);
        x.symlink("d/l", "t", 3);
        for (String name : new String[] {"a", "b", "c"}) {
            x.link("d/l", "d/" + name, 3);
        }
        x.about(2, 3, 4);
        for (String name : new String[] {"a", "b", "c", "l"}) {
            x.remove("d/" + name, 3);
        }
        x.removeFolder("d", 2);
        x.folder("e", 2);
        x.about(2, 1, 2);
        x.about(2, 2, 0);
        x.about(2, 3, 1);
        x.removeFolder("e", 2);
        x.plain("f", 2);
        x.about(2, 2, 0);
        x.about(2, 4, 0);
        x.about(2, 3, 1);
        x.targetByte(2, 0, Check.BAD);
        x.hold("f", 2);
        x.remove("f", 2);
        x.release(2, 0);
        x.symlink("l", "u", 2);
        x.about(2, 1, 1);
        x.about(2, 2, 1);
        x.about(2, 3, 0);
        x.targetByte(2, 0, 'u');
        x.targetByte(2, 1, Check.BAD);
        x.release(2, Check.BAD);
    }
}
