/** The edges of paths: each method holds one sentence of the document, in each call that reads a path. */
public final class EdgePathTest {
    /** The places that a path can have in a call; those below WANT_NAME want a name. */
    private static final int PLACES = 12;
    private static final int WANT_NAME = 8;
    private static final String MOST = "n".repeat(255);
    private static final String MORE = "n".repeat(256);

    public static void main(String[] args) {
        leftOutParts();
        leftOutPartsInTargets();
        partsWithDots();
        fromTheRootOn();
        upFromTheRoot();
        upFromTheDeepest();
        upBehindAMove();
        manyParts();
        namesInFolders();
        lastLinkIsKept();
        lastLinkIsFollowed();
        otherLinksAreGoneThrough();
        targetFromTheRoot();
        targetFromTheFolder();
        targetInThePlaceOfThePart();
        targetWithoutParts();
        longPart();
        longPartInTarget();
        longBeforeNotFolder();
        notFolder();
        noneInTheMiddle();
        noneAtTheEnd();
        answersPartByPart();
        fortyLinks();
        fortyLinksInLinks();
        fortyLinksWithRests();
        fortyLinksAndTheLast();
        endlessLinks();
        fortyLinksForEachPath();
        wantsName();
        wantsNameBehindTheWay();
        needNotBeThere();
        numbersBeforeTape();
        tapeBeforePaths();
        firstPathBeforeSecond();
        pathsBeforeList();
        Check.end();
    }

    /** Reads the path in one of its places; "f" must be a plain file, and "zz" not there. */
    private static void at(Check x, int place, String path, int want) {
        switch (place) {
            case 0 -> x.plain(path, want);
            case 1 -> x.folder(path, want);
            case 2 -> x.symlink(path, "t", want);
            case 3 -> x.remove(path, want);
            case 4 -> x.removeFolder(path, want);
            case 5 -> x.rename(path, "zz", want);
            case 6 -> x.rename("f", path, want);
            case 7 -> x.link("f", path, want);
            case 8 -> x.link(path, "zz", want);
            case 9 -> x.find(path, want);
            case 10 -> x.follow(path, want);
            default -> x.hold(path, want);
        }
    }

    /** All places refuse the path in the same way. */
    private static void all(Check x, String path, int want) {
        for (int place = 0; place < PLACES; place++) {
            at(x, place, path, want);
        }
    }

    private static void leftOutParts() {
        String[] paths = {
            "d/f", "/d/f", "//d/f", "d//f", "d///f", "d/f/", "d/f//", "./d/f", "d/./f", "d/f/.", "d/f/./",
            "././d/././f/./.", "/./d/.//./f", ".//d//.//f//.//"
        };
        for (String path : paths) {
            Check x = new Check("A path: parts that are empty or . are left out, " + path);
            x.folder("d", 2);
            x.plain(path, 3);
            x.find("d/f", 3);
            x.find(path, 3);
            x.follow(path, 3);
            x.hold(path, 3);
            x.release(3, 1);
            x.link(path, "g", 3);
            x.rename(path, "h", 3);
            x.rename("h", path, 3);
            x.remove(path, 3);
            x.symlink(path, ".", 4);
            x.remove(path, 4);
            x.link("g", path, 3);
            x.remove(path, 3);
            x.folder(path, 4);
            x.removeFolder(path, 4);
        }
        Check x = new Check("A path: all parts are left out");
        for (String path : new String[] {"", "/", "//", ".", "./", "/.", "/./", "././.", "/".repeat(1200)}) {
            x.find(path, 1);
            x.follow(path, 1);
        }
        x.tape("./".repeat(600));
        x.due("find", x.tree.find(false), 1);
    }

    private static void leftOutPartsInTargets() {
        String[] targets = {"d/g", "./d/g", "d//g", "d/./g", "d/g/", "d/g/.", "/d/g", "//d/g", "/./d/.//g/./", "///d///g///"};
        Check x = new Check("A target: parts that are empty or . are left out");
        x.folder("d", 2);
        x.folder("d/g", 3);
        x.plain("d/g/f", 4);
        x.room(60, 56);
        for (String target : targets) {
            x.symlink("l", target, 5);
            x.follow("l", 3);
            x.find("l/f", 4);
            x.find("l/..", 2);
            x.find("l", 5);
            x.remove("l", 5);
        }
    }

    private static void partsWithDots() {
        Check x = new Check("A path: only the part . is left out, only the part .. leads up");
        x.folder("d", 2);
        for (String path : new String[] {"...", "d/...", ".d", "d.", "..d", "d..", "d/ .", "d/. ", "d/.\u0001"}) {
            x.find(path, Check.NONE);
        }
        x.find("d...", Check.NONE);
        x.find("d/.../x", Check.NONE);
        x.plain("d/...", 3);
        x.find("d/...", 3);
        x.find("d/./...", 3);
        x.find("d/../...", Check.NONE);
    }

    private static void fromTheRootOn() {
        Check x = new Check("A path is gone through from the root on");
        x.folder("d", 2);
        x.plain("d/f", 3);
        x.find("d", 2);
        x.find("f", Check.NONE);
        x.find("d/f", 3);
        x.find("/f", Check.NONE);
        x.link("d/f", "f", 3);
        x.find("f", 3);
        x.rename("d/f", "g", 3);
        x.find("d/g", Check.NONE);
        x.find("/g", 3);
        x.symlink("d/l", "..", 4);
        x.follow("d/l", 1);
        x.find("l", Check.NONE);
    }

    private static void upFromTheRoot() {
        Check x = new Check("The part .. leads from the root to the root");
        x.plain("f", 2);
        for (String path : new String[] {"..", "/..", "../", "../..", "/../../", "./.././.."}) {
            x.find(path, 1);
            x.follow(path, 1);
            x.find(path + "/f", 2);
            x.hold(path + "/f", 2);
        }
        x.plain("../g", 3);
        x.find("g", 3);
        x.symlink("l", "../../g", 4);
        x.follow("l", 3);
        x.symlink("k", "..", 5);
        x.follow("k", 1);
        x.find("k/k/f", 2);
    }

    private static void upFromTheDeepest() {
        Check x = new Check("The part .. leads to the folder in which the folder is, at the greatest depth");
        StringBuilder path = new StringBuilder();
        for (int folder = 2; folder <= 40; folder++) {
            path.append("d/");
            x.folder(path.toString(), folder);
        }
        x.count(3, 40);
        x.find(path.toString(), 40);
        x.find(path + "..", 39);
        x.find(path + "../".repeat(38), 2);
        x.find(path + "../".repeat(39), 1);
        x.find(path + "../".repeat(40), 1);
        x.find(path + "../".repeat(41) + "d", 2);
        x.find(path + "x", Check.NONE);
        x.about(40, 4, 39);
        x.about(2, 4, 1);
    }

    private static void upBehindAMove() {
        Check x = new Check("The part .. behind a move of the folder, or of one around it");
        x.folder("a", 2);
        x.folder("a/b", 3);
        x.folder("c", 4);
        x.find("a/b/..", 2);
        x.rename("a/b", "c/b", 3);
        x.find("c/b/..", 4);
        x.rename("c", "a/c", 4);
        x.find("a/c/b/..", 4);
        x.find("a/c/b/../..", 2);
        x.rename("a/c/b", "b", 3);
        x.find("b/..", 1);
    }

    private static void manyParts() {
        Check x = new Check("A path with as many parts as the tape can hold");
        x.folder("d", 2);
        x.plain("f", 3);
        x.tape("d/../".repeat(240));
        x.due("find", x.tree.find(false), 1);
        x.tape("d/../".repeat(239) + "../f");
        x.due("find", x.tree.find(false), 3);
        Check y = new Check("A target with as many parts as it can hold");
        y.folder("d", 2);
        y.symlink("d/l", "../d/".repeat(200), 3);
        y.follow("d/l", 2);
        y.find("d/l/l", 3);
        y.follow("d/l/l", 2);
    }

    private static void namesInFolders() {
        Check x = new Check("Any other part leads to the file with that name in that folder");
        x.folder("a", 2);
        x.folder("b", 3);
        x.folder("a/a", 4);
        x.plain("b/a", 5);
        x.plain("a/b", 6);
        x.find("a", 2);
        x.find("a/a", 4);
        x.find("b/a", 5);
        x.find("a/b", 6);
        x.find("b/b", Check.NONE);
        x.find("a/a/a", Check.NONE);
        x.find("a/a/..", 2);
    }

    private static Check withLinks(String title) {
        Check x = new Check(title);
        x.folder("d", 2);
        x.plain("d/g", 3);
        x.symlink("l", "d", 4);
        x.symlink("k", "d/g", 5);
        x.plain("f", 6);
        return x;
    }

    private static void lastLinkIsKept() {
        for (String end : new String[] {"", "/", "/.", "//./"}) {
            Check x = withLinks("The last part is no link in calls that do not follow, behind it " + end);
            x.plain("l" + end, Check.THERE);
            x.folder("k" + end, Check.THERE);
            x.symlink("l" + end, "t", Check.THERE);
            x.link("f", "k" + end, Check.THERE);
            x.removeFolder("l" + end, Check.NOT_FOLDER);
            x.find("l" + end, 4);
            x.find("k" + end, 5);
            x.link("k" + end, "m", 5);
            x.about(5, 1, 2);
            x.about(3, 1, 1);
            x.rename("k" + end, "n", 5);
            x.find("d/g", 3);
            x.rename("f", "l" + end, 6);
            x.about(4, 0, Check.BAD);
            x.find("d", 2);
            x.remove("m" + end, 5);
            x.remove("n" + end, 5);
            x.about(5, 0, Check.BAD);
            x.find("d/g", 3);
        }
    }

    private static void lastLinkIsFollowed() {
        for (String end : new String[] {"", "/", "/.", "//./"}) {
            Check x = withLinks("The last part may be a link in calls that follow, behind it " + end);
            x.follow("l" + end, 2);
            x.follow("k" + end, 3);
            x.hold("k" + end, 3);
            x.about(3, 2, 1);
            x.hold("l" + end, Check.BAD);
            x.symlink("m", "none", 7);
            x.follow("m" + end, Check.NONE);
            x.hold("m" + end, Check.NONE);
            x.symlink("n", "m", 8);
            x.follow("n" + end, Check.NONE);
            x.find("n" + end, 8);
        }
    }

    private static void otherLinksAreGoneThrough() {
        for (String way : new String[] {"l/", "l//", "l/./", "/l/", "l/../l/"}) {
            Check x = withLinks("A part before the last one may be a link in each call, " + way);
            x.plain(way + "a", 7);
            x.folder(way + "b", 8);
            x.symlink(way + "c", "a", 9);
            x.find("d/a", 7);
            x.find("d/b", 8);
            x.find("d/c", 9);
            x.find(way + "c", 9);
            x.follow(way + "c", 7);
            x.hold(way + "c", 7);
            x.release(7, 1);
            x.link(way + "a", way + "e", 7);
            x.find("d/e", 7);
            x.rename(way + "e", way + "h", 7);
            x.find("d/h", 7);
            x.remove(way + "h", 7);
            x.removeFolder(way + "b", 8);
            x.about(2, 2, 3);
        }
    }

    private static void targetFromTheRoot() {
        Check x = new Check("A target that begins with 47 is gone through from the root on");
        x.folder("d", 2);
        x.plain("d/f", 3);
        x.plain("f", 4);
        x.folder("d/e", 5);
        x.symlink("d/e/l", "/f", 6);
        x.symlink("d/e/k", "//d/f", 7);
        x.symlink("d/e/j", "/", 8);
        x.follow("d/e/l", 4);
        x.follow("d/e/k", 3);
        x.follow("d/e/j", 1);
        x.find("d/e/j/f", 4);
        x.find("d/e/j/../d/f", 3);
        x.rename("d/e", "e", 5);
        x.follow("e/l", 4);
        x.follow("e/k", 3);
    }

    private static void targetFromTheFolder() {
        Check x = new Check("A target that does not is gone through from the folder in which the link is");
        x.folder("d", 2);
        x.plain("d/f", 3);
        x.plain("f", 4);
        x.symlink("d/l", "f", 5);
        x.symlink("d/k", "./f", 6);
        x.symlink("d/j", "../f", 7);
        x.follow("d/l", 3);
        x.follow("d/k", 3);
        x.follow("d/j", 4);
        // Where the link is, not where it was, and not where its other name is.
        x.link("d/l", "l", 5);
        x.follow("l", 4);
        x.follow("d/l", 3);
        x.rename("d/k", "k", 6);
        x.follow("k", 4);
        x.rename("d", "e", 2);
        x.follow("e/l", 3);
        // Where the link is, not where the path came from.
        x.symlink("m", "e/l", 8);
        x.follow("m", 3);
        x.symlink("n", "e", 9);
        x.follow("n/l", 3);
        x.symlink("e/o", "../m", 10);
        x.follow("n/o", 3);
        x.follow("n/../l", 4);
    }

    private static void targetInThePlaceOfThePart() {
        Check x = new Check("The parts of a target come in the place of the part");
        x.folder("a", 2);
        x.folder("a/b", 3);
        x.folder("a/b/c", 4);
        x.plain("a/b/c/f", 5);
        x.symlink("l", "a/b", 6);
        x.find("l/c", 4);
        x.find("l/c/f", 5);
        x.find("l/..", 2);
        x.find("l/../b/c/../../..", 1);
        x.symlink("m", "l/c/..", 7);
        x.follow("m", 3);
        x.find("m/c/f", 5);
        x.symlink("n", "m/c/../../b/c/f", 8);
        x.follow("n", 5);
        x.find("n/x", Check.NOT_FOLDER);
        x.symlink("a/b/o", "../../m/c", 9);
        x.find("l/o/f", 5);
        x.find("l/o/../o/f", 5);
    }

    private static void targetWithoutParts() {
        Check x = new Check("A target without parts");
        x.folder("d", 2);
        x.symlink("d/l", ".", 3);
        x.symlink("d/k", "/", 4);
        x.symlink("d/j", "//./.", 5);
        x.symlink("d/i", "./", 6);
        x.follow("d/l", 2);
        x.follow("d/k", 1);
        x.follow("d/j", 1);
        x.follow("d/i", 2);
        x.find("d/l/l", 3);
        x.find("d/l/k/d", 2);
        x.find("d/k/d/l/i/l", 3);
        x.find("d/l/..", 1);
        x.plain("d/i/f", 7);
        x.find("d/f", 7);
    }

    private static void longPart() {
        Check x = new Check("A part is longer than 255 bytes: LONG");
        x.plain("f", 2);
        x.folder(MOST, 3);
        all(x, MORE, Check.LONG);
        all(x, "/" + MORE, Check.LONG);
        x.find(MORE + "/f", Check.LONG);
        x.find(MORE + "/..", Check.LONG);
        x.plain(MORE + "/..", Check.LONG);
        x.find(MOST + "/" + MORE, Check.LONG);
        x.find(MOST + "/" + MORE + "/x", Check.LONG);
        x.find(".".repeat(256), Check.LONG);
        x.find(".".repeat(255), Check.NONE);
        x.fill('n', 1200, 1200);
        x.find("", Check.LONG);
        // 255 bytes are not too long, wherever they are.
        x.find(MOST, 3);
        x.find(MOST + "/", 3);
        x.find("./" + MOST + "/.", 3);
        x.find(MOST + "/../" + MOST, 3);
        x.find(MOST + "/" + MOST, Check.NONE);
        x.find("m" + MOST.substring(1), Check.NONE);
        x.find("/".repeat(256) + MOST + "/".repeat(256), 3);
        x.count(0, 3);
    }

    private static void longPartInTarget() {
        Check x = new Check("A part of a target is longer than 255 bytes: LONG");
        x.plain("f", 2);
        x.plain(MOST, 3);
        x.symlink("l", MORE, 4);
        x.symlink("k", "./" + MOST + "//", 5);
        x.symlink("j", "/" + MOST + "/" + MORE, 6);
        x.symlink("i", "none/" + MORE, 7);
        x.find("l", 4);
        x.follow("l", Check.LONG);
        x.hold("l", Check.LONG);
        all(x, "l/x", Check.LONG);
        x.find("l/..", Check.LONG);
        x.follow("k", 3);
        x.follow("j", Check.LONG);
        x.follow("i", Check.NONE);
        x.rename("l", "h", 4);
        x.remove("h", 4);
    }

    private static void longBeforeNotFolder() {
        Check x = new Check("LONG comes before NOT_FOLDER of the same part");
        x.plain("f", 2);
        all(x, "f/" + MORE, Check.LONG);
        all(x, "f/" + MOST, Check.NOT_FOLDER);
        x.find("f/./" + MORE, Check.LONG);
        x.find("f/" + MORE + "/x", Check.LONG);
    }

    private static void notFolder() {
        Check x = new Check("What was led to before it is no folder: NOT_FOLDER");
        x.plain("f", 2);
        x.symlink("l", "f", 3);
        for (String path : new String[] {"f/x", "f/..", "f/x/y", "f/f", "f//.//x"}) {
            all(x, path, Check.NOT_FOLDER);
        }
        Check y = new Check("What a link led to before it is no folder: NOT_FOLDER");
        y.plain("f", 2);
        y.symlink("l", "f", 3);
        y.symlink("k", "l", 4);
        y.symlink("j", "f/x", 5);
        y.symlink("i", "f/..", 6);
        all(y, "l/x", Check.NOT_FOLDER);
        all(y, "k/..", Check.NOT_FOLDER);
        all(y, "j/x", Check.NOT_FOLDER);
        y.follow("j", Check.NOT_FOLDER);
        y.follow("i", Check.NOT_FOLDER);
        y.hold("i", Check.NOT_FOLDER);
        y.find("l/.", 3);
        y.find("f/.", 2);
        y.find("f/", 2);
        y.count(0, 6);
    }

    private static void noneInTheMiddle() {
        Check x = new Check("It is not there, and not the last one: NONE");
        x.plain("f", 2);
        x.folder("d", 3);
        x.symlink("l", "none", 4);
        for (String path : new String[] {"none/x", "none/..", "d/none/x", "none/x/y", "l/x", "l/.."}) {
            all(x, path, Check.NONE);
        }
        x.find("none/./../d", Check.NONE);
        x.follow("l", Check.NONE);
        x.count(0, 4);
        x.count(1, 3);
    }

    private static void noneAtTheEnd() {
        for (String end : new String[] {"", "/", "/.", "//.//"}) {
            Check x = new Check("The last part is not there, behind it " + end);
            x.plain("f", 2);
            x.find("none" + end, Check.NONE);
            x.follow("none" + end, Check.NONE);
            x.hold("none" + end, Check.NONE);
            x.remove("none" + end, Check.NONE);
            x.removeFolder("none" + end, Check.NONE);
            x.rename("none" + end, "zz", Check.NONE);
            x.link("none" + end, "zz", Check.NONE);
            x.link("f", "a" + end, 2);
            x.rename("f", "b" + end, 2);
            x.symlink("c" + end, "t", 3);
            x.plain("d" + end, 4);
            x.folder("e" + end, 5);
            x.find("a", 2);
            x.find("b", 2);
            x.find("e", 5);
        }
    }

    private static void answersPartByPart() {
        Check x = new Check("The first that holds is answered, part by part");
        x.plain("f", 2);
        x.folder("d", 3);
        x.symlink("o", "o", 4);
        all(x, "none/" + MORE, Check.NONE);
        all(x, "f/x/" + MORE, Check.NOT_FOLDER);
        all(x, "o/" + MORE, Check.LOOP);
        Check y = new Check("The first that holds is answered, part by part, two");
        y.plain("f", 2);
        y.folder("d", 3);
        y.symlink("o", "o", 4);
        all(y, MORE + "/none/x", Check.LONG);
        all(y, "d/none/f/x", Check.NONE);
        all(y, "f/none/x", Check.NOT_FOLDER);
        all(y, "f/o/x", Check.NOT_FOLDER);
        y.find("o/none/x", Check.LOOP);
        y.find("none/o/x", Check.NONE);
        y.find("d/../f/../" + MORE, Check.NOT_FOLDER);
    }

    /** A plain file f in the root, which is led to by the link r, too; and l leads to f. */
    private static Check withRing(String title) {
        Check x = new Check(title);
        x.plain("f", 2);
        x.symlink("r", ".", 3);
        x.symlink("l", "f", 4);
        return x;
    }

    private static void fortyLinks() {
        String forty = "r/".repeat(40);
        String more = "r/".repeat(41);
        Check x = withRing("The 41st link that is gone through: LOOP");
        all(x, more + "a", Check.LOOP);
        x.count(0, 4);
        Check y = withRing("Forty links that are gone through");
        y.plain(forty + "a", 5);
        y.folder(forty + "b", 6);
        y.symlink(forty + "c", "t", 7);
        y.link("f", forty + "d", 2);
        y.link(forty + "f", "e", 2);
        y.rename(forty + "e", "g", 2);
        y.rename("g", forty + "h", 2);
        y.find(forty + "h", 2);
        y.follow(forty + "h", 2);
        y.hold(forty + "h", 2);
        y.remove(forty + "h", 2);
        y.removeFolder(forty + "b", 6);
        y.find(forty + "..", 1);
        y.plain(forty + "..", Check.BAD);
        y.plain(more + "..", Check.LOOP);
        y.find(more, 3);
        y.find(more + "r", Check.LOOP);
    }

    private static void fortyLinksAndTheLast() {
        String forty = "r/".repeat(40);
        Check x = withRing("The last link counts where it is gone through alone");
        x.find(forty + "l", 4);
        x.follow(forty + "l", Check.LOOP);
        x.follow("r/".repeat(39) + "l", 2);
        x.hold(forty + "l", Check.LOOP);
        x.hold("r/".repeat(39) + "l", 2);
        x.plain(forty + "l", Check.THERE);
        x.symlink(forty + "l", "t", Check.THERE);
        x.link("f", forty + "l", Check.THERE);
        x.link(forty + "l", "k", 4);
        x.rename(forty + "k", forty + "j", 4);
        x.removeFolder(forty + "j", Check.NOT_FOLDER);
        x.remove(forty + "j", 4);
        x.rename("f", forty + "l", 2);
        x.find("l", 2);
    }

    private static void fortyLinksInLinks() {
        Check x = new Check("The 41st link, by way of links in links");
        x.plain("f", 2);
        x.symlink("a", "f", 3);
        // Each of these leads through the one before it: l4 through one link, l39 through 36 of them.
        x.symlink("l4", ".", 4);
        for (int link = 5; link <= 39; link++) {
            x.symlink("l" + link, "l" + (link - 1), link);
        }
        x.follow("l39", 1);
        x.find("l39/l4", 4);
        x.follow("l39/a", 2);
        x.follow("l39/l4/l4/l4/f", 2);
        x.follow("l39/l4/l4/l4/l4/f", 2);
        x.follow("l39/l4/l4/l4/a", 2);
        x.follow("l39/l4/l4/l4/l4/a", Check.LOOP);
        x.find("l39/l4/l4/l4/l4/a", 3);
        x.find("l39/l7/f", 2);
        x.find("l39/l8/f", Check.LOOP);
        x.find("l39/l8", 8);
        x.follow("l39/l8", Check.LOOP);
        x.symlink("b", "l39/l7", 40);
        x.find("b", 40);
        x.follow("b", Check.LOOP);
    }

    /** Forty links in links, behind each of which a part is still to come. */
    private static void fortyLinksWithRests() {
        Check x = new Check("The 41st link, while parts of all the others are still to come");
        x.room(200, 199);
        x.plain("f", 2);
        x.folder("p", 3);
        x.folder("q", 4);
        x.symlink("p/z", "../q/a/..", 5);
        x.symlink("q/z", "..", 6);
        // From a to s: nineteen links, each with a name in both folders, each leading through the next one.
        for (char c = 'a'; c <= 's'; c++) {
            int file = c - 'a' + 7;
            x.symlink("p/" + c, (c == 's' ? "z" : String.valueOf((char) (c + 1))) + "/..", file);
            x.link("p/" + c, "q/" + c, file);
        }
        x.find("p/a/f", 2);
        x.follow("p/a", 1);
        x.hold("p/a/f", 2);
        x.plain("p/a/g", 26);
        x.find("g", 26);
        x.symlink("l", "p/a/f", 27);
        x.follow("l", Check.LOOP);
        x.symlink("k", "p/b/f", 28);
        x.follow("k", 2);
        x.symlink("q/y", ".", 29);
        x.follow("p/b/q/y", 4);
        x.follow("p/a/q/y", Check.LOOP);
        x.find("p/a/q/y", 29);
        // The parts of the fortieth target count, too.
        x.remove("q/z", 6);
        x.symlink("q/z", "y/../f", 6);
        x.find("p/b/f", Check.NOT_FOLDER);
        x.find("p/a/f", Check.LOOP);
        x.remove("q/z", 6);
        x.symlink("q/z", "none", 6);
        x.find("p/a/f", Check.NONE);
        x.remove("q/z", 6);
        x.symlink("q/z", MORE, 6);
        x.find("p/a/f", Check.LONG);
    }

    private static void endlessLinks() {
        Check x = new Check("Links without an end: LOOP");
        x.plain("f", 2);
        x.symlink("o", "o", 3);
        x.symlink("a", "b", 4);
        x.symlink("b", "a", 5);
        x.symlink("s", "/s/s", 6);
        x.symlink("t", "x/../t", 7);
        x.folder("x", 8);
        x.symlink("x/u", "../x/u/u", 9);
        for (String path : new String[] {"o", "a", "b", "s", "t", "x/u"}) {
            x.follow(path, Check.LOOP);
            x.hold(path, Check.LOOP);
            x.find(path + "/y", Check.LOOP);
            x.find(path + "/..", Check.LOOP);
        }
        all(x, "o/y", Check.LOOP);
        x.find("o", 3);
        x.rename("o", "p", 3);
        // It stands for o, which is not there any more.
        x.follow("p", Check.NONE);
        x.remove("a", 4);
        x.follow("b", Check.NONE);
    }

    private static void fortyLinksForEachPath() {
        String forty = "r/".repeat(40);
        Check x = withRing("Each path of a call has its own forty links");
        x.link(forty + "f", forty + "g", 2);
        x.rename(forty + "g", forty + "h", 2);
        x.find("h", 2);
        x.link(forty + "f", forty + "r/g", Check.LOOP);
        x.link(forty + "r/f", forty + "g", Check.LOOP);
        x.rename(forty + "h", forty + "r/g", Check.LOOP);
        x.rename(forty + "r/h", forty + "g", Check.LOOP);
        x.count(1, 4);
    }

    private static void wantsName() {
        for (String path : new String[] {"", "/", ".", "/./", "..", "/..", "d/..", "l/..", "d/../", "d/e/../..", "d/e/.."}) {
            Check x = new Check("A path that wants a name is BAD without parts, or if its last one is .., " + path);
            x.plain("f", 2);
            x.folder("d", 3);
            x.folder("d/e", 4);
            x.symlink("l", "d/e", 5);
            for (int place = 0; place < WANT_NAME; place++) {
                at(x, place, path, Check.BAD);
            }
            x.link(path, "zz", Check.FOLDER);
            x.hold(path, Check.BAD);
            x.tape(path);
            int found = x.tree.find(false);
            x.due("a folder's kind", x.tree.about(found, 0), 2);
            x.follow(path, found);
            x.count(0, 5);
            x.count(1, 4);
        }
        Check x = new Check("A path that wants a name may have .. before its last part");
        x.folder("d", 2);
        x.plain("d/../a", 3);
        x.plain("../b", 4);
        x.rename("d/../a", "d/../c", 3);
        x.removeFolder("d/../d", 2);
        x.find("c", 3);
    }

    private static void wantsNameBehindTheWay() {
        Check x = new Check("It is BAD behind what the way answers");
        x.plain("f", 2);
        x.symlink("o", "o", 3);
        for (int place = 0; place < WANT_NAME; place++) {
            at(x, place, "f/..", Check.NOT_FOLDER);
            at(x, place, "none/..", Check.NONE);
            at(x, place, "o/..", Check.LOOP);
            at(x, place, MORE + "/..", Check.LONG);
        }
    }

    private static void needNotBeThere() {
        Check x = new Check("The last part of a path that wants a name need not be there");
        x.plain("f", 2);
        x.symlink("l", "d", 3);
        x.folder("d", 4);
        x.plain("l/a", 5);
        x.link("f", "l/b", 2);
        x.rename("f", "l/c", 2);
        x.symlink("l/e", "a", 6);
        x.folder("l/g", 7);
        x.about(4, 2, 5);
        x.remove("l/h", Check.NONE);
        x.removeFolder("l/h", Check.NONE);
        x.rename("l/h", "l/i", Check.NONE);
        // It must be there for it to lead on.
        x.plain("l/h/a", Check.NONE);
        x.about(4, 2, 5);
    }

    private static void numbersBeforeTape() {
        for (int kind : new int[] {0, 3, -1, 4, Integer.MIN_VALUE, Integer.MAX_VALUE}) {
            Check x = new Check("Numbers are looked at first (BAD), kind " + kind);
            x.plain("f", 2);
            for (String path : new String[] {"a", "f", "f/x", "none/x", MORE, "", "\0", "..", "a\0b"}) {
                x.tape(path);
                x.due("make of " + path, x.tree.make(kind), Check.BAD);
                x.count(2, 0);
            }
            x.count(0, 2);
            x.count(1, 1);
        }
    }

    private static void tapeBeforePaths() {
        Check x = new Check("Then the tape: BAD before what its paths would answer");
        x.plain("f", 2);
        x.symlink("o", "o", 3);
        for (String path : new String[] {"f/x", "none/x", "o/x", MORE, "f", "none"}) {
            x.plain(path + "\0", Check.BAD);
            x.remove("\0" + path, Check.BAD);
            x.removeFolder(path + "\0", Check.BAD);
            x.find(path + "\0" + path, Check.BAD);
            x.hold(path + "\0", Check.BAD);
            x.tape(path);
            x.due("link of " + path, x.tree.link(), Check.BAD);
            x.tape(path);
            x.due("rename of " + path, x.tree.rename(), Check.BAD);
            x.tape(path);
            x.due("symlink of " + path, x.tree.symlink(), Check.BAD);
            x.link(path, "a\0", Check.BAD);
            x.rename(path, "\0a", Check.BAD);
            x.symlink(path, "a\0", Check.BAD);
            x.symlink(path, "", Check.BAD);
        }
        x.symlink("f/x", "t".repeat(1001), Check.BAD);
        x.symlink("none/x", "t".repeat(1001), Check.BAD);
        x.symlink("o/x", "t".repeat(1001), Check.BAD);
        x.symlink("f", "t".repeat(1001), Check.BAD);
        x.count(0, 3);
    }

    private static void firstPathBeforeSecond() {
        String[] paths = {"f/x", "none/x", "o/x", MORE, ".."};
        int[] answers = {Check.NOT_FOLDER, Check.NONE, Check.LOOP, Check.LONG, Check.BAD};
        for (int a = 0; a < paths.length; a++) {
            Check x = new Check("Then its paths in their order, each to its end; the first is " + paths[a]);
            x.plain("f", 2);
            x.symlink("o", "o", 3);
            for (int b = 0; b < paths.length; b++) {
                x.rename(paths[a], paths[b], answers[a]);
                // The first path of link does not want a name.
                x.link(paths[a], paths[b], answers[a] == Check.BAD ? answers[b] : answers[a]);
            }
        }
    }

    private static void pathsBeforeList() {
        String[] paths = {"f/x", "none/x", "o/x", MORE, ".."};
        int[] answers = {Check.NOT_FOLDER, Check.NONE, Check.LOOP, Check.LONG, Check.BAD};
        Check x = new Check("Then what the call lists: behind both paths");
        x.plain("f", 2);
        x.symlink("o", "o", 3);
        x.folder("d", 4);
        x.room(4, 1);
        for (int b = 0; b < paths.length; b++) {
            x.link("none", paths[b], answers[b]);
            x.link("d", paths[b], answers[b]);
            x.rename("none", paths[b], answers[b]);
            x.rename("d", paths[b], answers[b]);
            x.symlink(paths[b], "t".repeat(60), answers[b]);
        }
        x.count(1, 3);
    }
}
