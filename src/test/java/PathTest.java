/** The terms: names, paths, their parts, links in links, and the order of a path's answers. */
public final class PathTest {
    public static void main(String[] args) {
        parts();
        names();
        up();
        targets();
        lastPart();
        orderInOnePath();
        orderOfPaths();
        wantsName();
        loops();
        longParts();
        lastBytes();
        Check.end();
    }

    private static void parts() {
        Check x = new Check("parts");
        x.folder("a", 2);
        x.folder("a/b", 3);
        x.plain("a/b/f", 4);
        x.find("/a/b/f", 4);
        x.find("///a//.//b/./f", 4);
        x.find("a/b/f/", 4);
        x.find("a/b/f/.", 4);
        x.find("a/b/f/././/", 4);
        x.find("./a/b", 3);
        x.find(".", 1);
        x.find("/", 1);
        x.find("//././/", 1);
        x.find("a/b/.", 3);
        x.plain("a/g/.//", 5);
        x.find("a/g", 5);
        x.remove("a/./g/.", 5);
        x.removeFolder("/a/b/", Check.NOT_EMPTY);
        x.find("A", Check.NONE);
        x.find("ab", Check.NONE);
        x.find("a/bf", Check.NONE);
    }

    private static void names() {
        Check x = new Check("names");
        x.plain("...", 2);
        x.plain(".a", 3);
        x.plain("a.", 4);
        x.plain("..a", 5);
        x.plain("\u0001", 6);
        x.plain("\u00FF", 7);
        x.plain("\u007F\u0080", 8);
        x.find("...", 2);
        x.find(".a", 3);
        x.find("a.", 4);
        x.find("..a", 5);
        x.find("\u0001", 6);
        x.find("\u00FF", 7);
        x.find("\u007F\u0080", 8);
        x.find("\u007F", Check.NONE);
        x.find("\u0080", Check.NONE);
        x.find("....", Check.NONE);
        x.folder("d", 9);
        x.plain("d/d", 10);
        x.find("d/d", 10);
        x.plain("d/...", 11);
        x.find("...", 2);
    }

    private static void up() {
        Check x = new Check("the part ..");
        x.folder("a", 2);
        x.folder("a/b", 3);
        x.folder("c", 4);
        x.plain("f", 5);
        x.find("..", 1);
        x.find("../../..", 1);
        x.find("a/..", 1);
        x.find("a/b/..", 2);
        x.find("a/b/../..", 1);
        x.find("a/b/../../../c", 4);
        x.find("f/..", Check.NOT_FOLDER);
        x.find("z/..", Check.NONE);
        x.rename("a/b", "c/b", 3);
        x.find("c/b/..", 4);
        x.follow("c/b/../../a/..", 1);
    }

    private static void targets() {
        Check x = new Check("targets");
        x.folder("a", 2);
        x.folder("a/b", 3);
        x.plain("a/b/f", 4);
        x.plain("f", 5);
        x.symlink("a/b/rel", "f", 6);
        x.symlink("a/b/abs", "/f", 7);
        x.symlink("a/b/up", "../..", 8);
        x.symlink("a/b/root", "/", 9);
        x.symlink("a/b/dot", ".", 10);
        x.symlink("a/b/dots", ".//./", 11);
        x.symlink("a/b/slashes", "///.", 12);
        x.symlink("a/b/ends", "../b/", 13);
        x.room(60, 47);
        x.follow("a/b/rel", 4);
        x.follow("a/b/abs", 5);
        x.follow("a/b/up", 1);
        x.follow("a/b/root", 1);
        x.follow("a/b/dot", 3);
        x.follow("a/b/dots", 3);
        x.follow("a/b/slashes", 1);
        x.follow("a/b/ends", 3);
        x.find("a/b/up/f", 5);
        x.find("a/b/root/a", 2);
        x.find("a/b/dot/f", 4);
        x.find("a/b/ends/f", 4);
        x.find("a/b/root/..", 1);
        x.find("a/b/dot/..", 2);
        x.find("a/b/slashes/f", 5);
        // Through a link, .. leads out of the folder that the target names.
        x.symlink("q", "a/b", 14);
        x.find("q/..", 2);
        x.find("q/../../f", 5);
        x.follow("q/rel", 4);
        x.find("q/rel", 6);
        // A link with two names is in the folder through which it was come to.
        x.link("a/b/rel", "rel", 6);
        x.follow("rel", 5);
        x.follow("a/b/rel", 4);
        x.rename("a/b/rel", "a/rel", 6);
        x.follow("a/rel", Check.NONE);
    }

    private static void lastPart() {
        Check x = new Check("the last part");
        x.folder("d", 2);
        x.plain("d/f", 3);
        x.symlink("l", "m", 4);
        x.symlink("m", "d", 5);
        x.symlink("d/k", "../l/f", 6);
        x.find("l", 4);
        x.find("l/", 4);
        x.find("l/.", 4);
        x.follow("l", 2);
        x.find("l/f", 3);
        x.find("l/k", 6);
        x.follow("l/k", 3);
        x.find("l/..", 1);
        x.symlink("gone", "d/none", 7);
        x.find("gone", 7);
        x.follow("gone", Check.NONE);
        x.find("gone/..", Check.NONE);
        x.find("gone/x", Check.NONE);
        x.hold("gone", Check.NONE);
        x.symlink("tofile", "d/f", 8);
        x.find("tofile/x", Check.NOT_FOLDER);
        x.find("tofile/..", Check.NOT_FOLDER);
        x.find("tofile/.", 8);
        x.symlink("through", "none/f", 9);
        x.follow("through", Check.NONE);
        x.symlink("filein", "d/f/g", 10);
        x.follow("filein", Check.NOT_FOLDER);
        x.plain("gone", Check.THERE);
        x.plain("l", Check.THERE);
        x.plain("l/new", 11);
        x.find("d/new", 11);
        x.remove("l", 4);
        x.find("m", 5);
        x.find("d", 2);
    }

    private static void orderInOnePath() {
        Check x = new Check("the order in one path");
        String big = "n".repeat(256);
        x.plain("f", 2);
        x.symlink("o", "o", 3);
        x.find("f/" + big, Check.LONG);
        x.find("none/" + big, Check.NONE);
        x.find("o/" + big, Check.LOOP);
        x.find("f/none/x", Check.NOT_FOLDER);
        x.find("f/x/" + big, Check.NOT_FOLDER);
        x.find(big + "/f/x", Check.LONG);
        x.find("none", Check.NONE);
        x.plain("none/x", Check.NONE);
        x.plain("f/x", Check.NOT_FOLDER);
        x.plain("o/x", Check.LOOP);
        x.plain("f/..", Check.NOT_FOLDER);
        x.plain("none/..", Check.NONE);
        x.plain("o/..", Check.LOOP);
        x.plain("f/../" + big, Check.NOT_FOLDER);
        x.removeFolder("f/..", Check.NOT_FOLDER);
        x.remove("o/..", Check.LOOP);
    }

    private static void orderOfPaths() {
        Check x = new Check("the order of two paths");
        String big = "n".repeat(256);
        x.plain("f", 2);
        x.folder("d", 3);
        x.symlink("o", "o", 4);
        x.link("none", "..", Check.BAD);
        x.link("none", "f/x", Check.NOT_FOLDER);
        x.link("none", big, Check.LONG);
        x.link("none", "f", Check.NONE);
        x.link("d", "o/x", Check.LOOP);
        x.link("d", "f", Check.FOLDER);
        x.link("f/x", big, Check.NOT_FOLDER);
        x.link("o/x", "..", Check.LOOP);
        x.link("x/y", "", Check.NONE);
        x.rename("..", big, Check.BAD);
        x.rename("none", "", Check.BAD);
        x.rename("none", "x/y", Check.NONE);
        x.rename("none", "f/y", Check.NOT_FOLDER);
        x.rename("f/x", "..", Check.NOT_FOLDER);
        x.rename("d", "o/x", Check.LOOP);
        x.symlink("f/x", "t", Check.NOT_FOLDER);
        x.symlink("f/x", "", Check.BAD);
        x.symlink("f/x", "t".repeat(1001), Check.BAD);
        // Each path has its own forty links.
        x.symlink("r", ".", 5);
        x.link("r/".repeat(40) + "f", "r/".repeat(40) + "g", 2);
        x.rename("r/".repeat(40) + "g", "r/".repeat(40) + "h", 2);
        x.rename("r/".repeat(41) + "h", "..", Check.LOOP);
        x.rename("h", "r/".repeat(41) + "..", Check.LOOP);
        x.find("h", 2);
    }

    private static void wantsName() {
        Check x = new Check("paths that want a name");
        x.folder("d", 2);
        x.plain("d/f", 3);
        x.symlink("l", "d", 4);
        for (String path : new String[] {"", "/", ".", "./.", "..", "d/..", "l/..", "d/../", "d/.././", "../.."}) {
            x.plain(path, Check.BAD);
            x.folder(path, Check.BAD);
            x.symlink(path, "d", Check.BAD);
            x.remove(path, Check.BAD);
            x.removeFolder(path, Check.BAD);
            x.rename(path, "new", Check.BAD);
            x.rename("d", path, Check.BAD);
            x.link("d/f", path, Check.BAD);
        }
        x.link("..", "new", Check.FOLDER);
        x.link("", "new", Check.FOLDER);
        x.link("l", "k", 4);
        x.about(4, 1, 2);
        x.plain("d/../new", 5);
        x.find("new", 5);
        x.removeFolder("l", Check.NOT_FOLDER);
        x.removeFolder("l/", Check.NOT_FOLDER);
    }

    private static void loops() {
        Check x = new Check("LOOP");
        x.plain("f", 2);
        x.symlink("r", ".", 3);
        x.symlink("l", "f", 4);
        x.find("r/".repeat(40) + "f", 2);
        x.find("r/".repeat(41) + "f", Check.LOOP);
        x.find("r/".repeat(40) + "l", 4);
        x.follow("r/".repeat(40) + "l", Check.LOOP);
        x.follow("r/".repeat(39) + "l", 2);
        x.find("r/".repeat(40) + "r", 3);
        x.follow("r/".repeat(40), 1);
        x.follow("r/".repeat(41), Check.LOOP);
        x.hold("r/".repeat(40) + "l", Check.LOOP);
        x.hold("r/".repeat(39) + "l", 2);
        x.plain("r/".repeat(40) + "new", 5);
        x.plain("r/".repeat(41) + "newer", Check.LOOP);
        x.find("r/".repeat(40) + "none/r", Check.NONE);
        x.find("r/".repeat(40) + "f/r", Check.NOT_FOLDER);
        chain();
        wide();
    }

    /** Links in links: the first leads to the second, and so on. */
    private static void chain() {
        Check x = new Check("LOOP, a chain");
        x.folder("d", 2);
        x.room(200, 198);
        for (int i = 0; i < 37; i++) {
            x.symlink("l" + i, i == 0 ? "d/" : "./l" + (i - 1) + "/.", i + 3);
        }
        x.follow("l36", 2);
        x.find("l36", 39);
        x.find("l36/..", 1);
        x.find("l36/../l2", 5);
        x.follow("l36/../l2", 2);
        x.follow("l36/../l3", Check.LOOP);
        x.symlink("d/m", "../l36", 40);
        x.follow("d/m", 2);
        x.follow("d/m/m", Check.LOOP);
        x.follow("d/m/../l1", 2);
        x.follow("d/m/../l2", Check.LOOP);
        x.folder("l36/sub", Check.FULL);
        x.remove("d/m", 40);
        x.folder("l36/sub", 40);
        x.find("d/sub", 40);
    }

    /** Targets as long as they may be, all in one path. */
    private static void wide() {
        Check x = new Check("LOOP, long targets");
        x.plain("f", 2);
        String target = "./".repeat(499) + "w";
        x.symlink("w", target + "/", 3);
        x.follow("w", Check.LOOP);
        x.symlink("v", "v/".repeat(400), 4);
        x.find("w/x", Check.LOOP);
        x.find("v/x", Check.LOOP);
        x.follow("v", Check.LOOP);
        x.symlink("u", "../".repeat(332) + "f", 5);
        x.follow("u", 2);
        x.symlink("t", ".", 6);
        x.symlink("s", "t/".repeat(39) + "/".repeat(900) + "f", 7);
        x.follow("s", 2);
        x.symlink("q", "s", 8);
        x.follow("q", Check.LOOP);
    }

    /** Parts that end with the last byte that a tape or a target can have. */
    private static void lastBytes() {
        Check x = new Check("the last bytes");
        x.fill(47, 1199, 1199);
        x.plain("f", 2);
        x.fill(47, 1199, 1199);
        x.find("f", 2);
        x.folder("d", 3);
        x.tape("d");
        x.fill(47, 1197, 1198);
        x.find("..", 1);
        x.fill(47, 1198, 1198);
        x.plain("..", Check.BAD);
        x.fill(47, 1199, 1199);
        x.find(".", 1);
        x.symlink("d/l", "/".repeat(999) + "f", 4);
        x.symlink("d/k", "." + "/".repeat(997) + "..", 5);
        x.symlink("d/j", "/".repeat(999) + ".", 6);
        x.follow("d/l", 2);
        x.follow("d/k", 1);
        x.follow("d/j", 1);
        x.find("d/k/f", 2);
        // What stands behind the end of a shorter tape or target is no part of it.
        x.find("/".repeat(100) + "zzz", Check.NONE);
        x.find("/".repeat(100) + "f", 2);
        x.remove("d/l", 4);
        x.symlink("d/l", "/d", 4);
        x.follow("d/l", 3);
    }

    private static void longParts() {
        Check x = new Check("LONG");
        String most = "n".repeat(255);
        String more = "n".repeat(256);
        x.plain(more, Check.LONG);
        x.folder(more, Check.LONG);
        x.plain(most, 2);
        x.find(most, 2);
        x.find(most + "n", Check.LONG);
        x.find("n".repeat(254), Check.NONE);
        x.remove(more, Check.LONG);
        x.removeFolder(more, Check.LONG);
        x.hold(more, Check.LONG);
        x.link(most, more, Check.LONG);
        x.link(more, most, Check.LONG);
        x.rename(most, more, Check.LONG);
        x.rename(more, most, Check.LONG);
        x.symlink(more, "t", Check.LONG);
        x.symlink("l", more, 3);
        x.symlink("k", "/" + most, 4);
        x.find("l", 3);
        x.follow("l", Check.LONG);
        x.find("l/x", Check.LONG);
        x.follow("k", 2);
        x.find(".".repeat(255), Check.NONE);
        x.find(".".repeat(256), Check.LONG);
        x.find("/".repeat(300) + most, 2);
        x.fill(110, 1200, 1200);
        x.find("", Check.LONG);
    }
}
