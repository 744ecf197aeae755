/** The edges of the room: what files take, the room itself, and FULL by one too few. */
public final class EdgeRoomTest {
    private static final String SHORT = "t".repeat(59);
    private static final String LONGER = "t".repeat(60);
    /** What each way to take room takes beside the growth of its folder. */
    private static final int[] NEW_FILE_TAKES = {1, 1, 0, 1, 0, 0};

    public static void main(String[] args) {
        plainFile();
        link();
        folder();
        folderOverTime();
        folderAtOnce();
        folderWithMostNames();
        rootToo();
        heldOne();
        roomAtBothEnds();
        roomAtWhatIsTaken();
        refusedRoom();
        lessRoomThanBefore();
        fullByOne();
        fullByOneInRoot();
        nothingLeft();
        fullIsForgotten();
        thereBeforeFull();
        Check.end();
    }

    private static void plainFile() {
        Check x = new Check("A plain file takes 1");
        x.plain("f", 2);
        x.about(2, 3, 1);
        x.count(3, 2);
        x.link("f", "g", 2);
        x.hold("f", 2);
        x.about(2, 3, 1);
        x.count(3, 2);
        x.remove("g", 2);
        x.release(2, 1);
        x.count(3, 2);
        x.remove("f", 2);
        x.count(3, 1);
    }

    private static void link() {
        int[] lengths = {1, 2, 58, 59, 60, 61, 255, 256, 999, 1000};
        for (int length : lengths) {
            int takes = length > 59 ? 1 : 0;
            Check x = new Check("A link takes 1, if its target has more than 59 bytes, else 0; bytes " + length);
            x.symlink("l", "t".repeat(length), 2);
            x.about(2, 2, length);
            x.about(2, 3, takes);
            x.count(3, 1 + takes);
            x.link("l", "k", 2);
            x.count(3, 1 + takes);
            x.remove("l", 2);
            x.about(2, 3, takes);
            x.remove("k", 2);
            x.count(3, 1);
        }
    }

    private static void folder() {
        int[] takes = {1, 1, 1, 1, 4, 5, 6, 7};
        Check x = new Check("A folder takes 1, if it never had more than 3 names at once, else that greatest number");
        x.folder("d", 2);
        x.plain("f", 3);
        for (int names = 0; names < takes.length; names++) {
            x.about(2, 2, names);
            x.about(2, 3, takes[names]);
            x.count(3, 2 + takes[names]);
            x.link("f", "d/" + names, 3);
        }
    }

    private static void folderOverTime() {
        for (int most = 1; most <= 6; most++) {
            Check x = new Check("A folder takes as before when names go; names " + most);
            int takes = most > 3 ? most : 1;
            x.folder("d", 2);
            x.plain("f", 3);
            for (int name = 0; name < most; name++) {
                x.link("f", "d/" + name, 3);
            }
            for (int name = 0; name < most; name++) {
                x.about(2, 3, takes);
                x.remove("d/" + name, 3);
            }
            x.about(2, 2, 0);
            x.about(2, 3, takes);
            // As many as before are no more than before.
            x.room(2 + takes, 0);
            for (int name = 0; name < most; name++) {
                x.link("f", "d/" + name, 3);
            }
            x.count(3, 2 + takes);
            x.link("f", "d/more", most < 3 ? 3 : Check.FULL);
        }
    }

    private static void folderAtOnce() {
        Check x = new Check("Names that are there one behind the other are not at once");
        x.folder("d", 2);
        x.plain("d/a", 3);
        x.plain("d/b", 4);
        for (int turn = 0; turn < 6; turn++) {
            x.plain("d/c" + turn, 5);
            x.remove("d/c" + turn, 5);
        }
        x.about(2, 2, 2);
        x.about(2, 3, 1);
        x.plain("d/c", 5);
        x.about(2, 3, 1);
        x.plain("d/d", 6);
        x.about(2, 3, 4);
    }

    private static void folderWithMostNames() {
        Check x = new Check("A folder with as many names as there can be");
        x.room(200, 199);
        x.folder("d", 2);
        x.symlink("d/0", "t", 3);
        for (int name = 1; name < 59; name++) {
            x.link("d/0", "d/" + name, 3);
        }
        x.about(2, 2, 59);
        x.about(2, 3, 59);
        x.count(1, 60);
        x.count(3, 60);
        x.room(60, 0);
        x.room(59, Check.BAD);
    }

    private static void rootToo() {
        int[] takes = {1, 1, 1, 1, 4, 5, 6};
        Check x = new Check("All files together, the root, too");
        for (int names = 0; names < takes.length; names++) {
            x.about(1, 3, takes[names]);
            x.count(3, takes[names]);
            x.symlink("l" + names, "t", names + 2);
        }
        for (int names = 0; names < takes.length; names++) {
            x.remove("l" + names, names + 2);
        }
        x.count(0, 1);
        x.about(1, 3, 7);
        x.count(3, 7);
        x.room(7, 0);
        x.room(6, Check.BAD);
    }

    private static void heldOne() {
        Check x = new Check("A held file without names takes 1");
        x.plain("f", 2);
        x.hold("f", 2);
        x.remove("f", 2);
        x.count(3, 2);
        x.room(2, 0);
        x.room(1, Check.BAD);
        x.plain("g", Check.FULL);
        x.symlink("l", LONGER, Check.FULL);
        x.release(2, 0);
        x.count(3, 1);
        x.plain("g", 2);
    }

    private static void roomAtBothEnds() {
        Check x = new Check("Promise 4: n is above 200, or less than all files take");
        x.room(200, 199);
        x.room(201, Check.BAD);
        x.room(202, Check.BAD);
        x.room(456, Check.BAD);
        x.room(Integer.MAX_VALUE, Check.BAD);
        x.room(1, 0);
        x.room(0, Check.BAD);
        x.room(-1, Check.BAD);
        x.room(-200, Check.BAD);
        x.room(Integer.MIN_VALUE, Check.BAD);
        x.room(199, 198);
        x.room(2, 1);
    }

    private static void roomAtWhatIsTaken() {
        Check x = new Check("Promise 4: the room may be just what all files take");
        x.folder("d", 2);
        x.plain("d/f", 3);
        x.symlink("l", SHORT, 4);
        x.symlink("k", LONGER, 5);
        x.count(3, 4);
        x.room(3, Check.BAD);
        x.room(4, 0);
        x.room(5, 1);
        x.remove("k", 5);
        x.room(4, 1);
        x.room(3, 0);
        x.room(2, Check.BAD);
    }

    private static void refusedRoom() {
        for (int n : new int[] {201, 0, -1, 2, Integer.MAX_VALUE, Integer.MIN_VALUE}) {
            Check x = new Check("Promise 4: a refused room leaves the old one, " + n);
            x.plain("a", 2);
            x.plain("b", 3);
            x.room(4, 1);
            x.room(n, Check.BAD);
            x.plain("c", 4);
            x.link("a", "d", Check.FULL);
            x.symlink("e", LONGER, Check.FULL);
            x.room(4, 0);
        }
    }

    private static void lessRoomThanBefore() {
        Check x = new Check("Promise 4: the room is n, less or more than before");
        x.room(10, 9);
        x.plain("a", 2);
        x.room(2, 0);
        x.plain("b", Check.FULL);
        x.room(3, 1);
        x.plain("b", 3);
        x.plain("c", Check.FULL);
        x.room(200, 197);
        x.plain("c", 4);
        x.room(4, 0);
        x.room(4, 0);
        x.remove("c", 4);
        x.room(4, 1);
    }

    /** One of the calls that can take room. */
    private static void take(int way, Check x, String path, boolean fits) {
        int made = fits ? 4 : Check.FULL;
        switch (way) {
            case 0 -> x.plain(path, made);
            case 1 -> x.folder(path, made);
            case 2 -> x.symlink(path, SHORT, made);
            case 3 -> x.symlink(path, LONGER, made);
            case 4 -> x.link("f", path, fits ? 3 : Check.FULL);
            default -> x.rename("f", path, fits ? 3 : Check.FULL);
        }
    }

    private static void fullByOne() {
        int[] growth = {0, 0, 0, 3, 1, 1, 1};
        for (int way = 0; way < 6; way++) {
            for (int names = 0; names < growth.length; names++) {
                Check x = new Check("FULL: more than the room; way " + way + ", names before " + names);
                x.folder("d", 2);
                x.plain("f", 3);
                for (int name = 0; name < names; name++) {
                    x.link("f", "d/" + name, 3);
                }
                int taken = x.tree.count(3);
                int more = growth[names] + NEW_FILE_TAKES[way];
                if (more > 0) {
                    x.room(taken + more - 1, more - 1);
                    take(way, x, "d/new", false);
                    x.count(3, taken);
                    x.about(2, 2, names);
                    x.find("d/new", Check.NONE);
                    x.find("f", 3);
                }
                x.room(taken + more, more);
                take(way, x, "d/new", true);
                x.count(3, taken + more);
                x.about(2, 2, names + 1);
                x.room(taken + more, 0);
            }
        }
    }

    private static void fullByOneInRoot() {
        int[] growth = {0, 3, 1, 1};
        for (int way = 0; way < 5; way++) {
            for (int names = 2; names < 6; names++) {
                Check x = new Check("FULL: the root takes room, too; way " + way + ", names before " + names);
                x.folder("d", 2);
                x.plain("f", 3);
                for (int name = 2; name < names; name++) {
                    x.link("f", "n" + name, 3);
                }
                int taken = x.tree.count(3);
                int more = growth[names - 2] + NEW_FILE_TAKES[way];
                if (more > 0) {
                    x.room(taken + more - 1, more - 1);
                    take(way, x, "new", false);
                    x.count(3, taken);
                }
                x.room(taken + more, more);
                take(way, x, "new", true);
                x.count(3, taken + more);
            }
        }
    }

    private static void nothingLeft() {
        Check x = new Check("What takes no more is not refused, though nothing is left");
        x.folder("d", 2);
        x.plain("f", 3);
        x.room(3, 0);
        x.symlink("l", SHORT, 4);
        x.link("f", "d/a", 3);
        x.link("f", "d/b", 3);
        x.symlink("d/c", "t", 5);
        x.rename("d/c", "d/e", 5);
        x.rename("f", "d/a", 3);
        x.find("f", 3);
        x.rename("f", "d/e", 3);
        x.about(5, 0, Check.BAD);
        x.hold("d/e", 3);
        x.release(3, 3);
        x.rename("d", "e", 2);
        x.remove("e/a", 3);
        x.room(3, 0);
        x.plain("g", Check.FULL);
        x.folder("g", Check.FULL);
        x.symlink("g", LONGER, Check.FULL);
    }

    private static void fullIsForgotten() {
        Check x = new Check("A refused name was never there at once with the others");
        x.folder("d", 2);
        x.plain("f", 3);
        x.link("f", "d/a", 3);
        x.link("f", "d/b", 3);
        x.link("f", "d/c", 3);
        x.room(5, 2);
        x.link("f", "d/d", Check.FULL);
        x.plain("d/d", Check.FULL);
        x.rename("f", "d/d", Check.FULL);
        x.symlink("d/d", "t", Check.FULL);
        x.about(2, 3, 1);
        x.count(3, 3);
        x.remove("d/c", 3);
        x.link("f", "d/d", 3);
        x.about(2, 3, 1);
        x.link("f", "d/c", Check.FULL);
        x.room(6, 3);
        x.link("f", "d/c", 3);
        x.about(2, 3, 4);
        x.room(6, 0);
    }

    private static void thereBeforeFull() {
        Check x = new Check("THERE comes before FULL");
        x.plain("f", 2);
        x.folder("d", 3);
        x.symlink("l", "f", 4);
        x.room(3, 0);
        for (String path : new String[] {"f", "d", "l"}) {
            x.plain(path, Check.THERE);
            x.folder(path, Check.THERE);
            x.symlink(path, LONGER, Check.THERE);
            x.link("f", path, Check.THERE);
        }
        x.link("none", "f", Check.NONE);
        x.link("none", "new", Check.NONE);
        x.link("d", "f", Check.FOLDER);
        x.link("d", "new", Check.FOLDER);
        x.link("f", "new", Check.FULL);
    }
}
