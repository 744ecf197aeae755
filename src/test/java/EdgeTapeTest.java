/** The edges of the tape: each method holds one sentence of the document, which is its title. */
public final class EdgeTapeTest {
    private static final int[] FAR = {-1, Integer.MIN_VALUE, Integer.MAX_VALUE, -256, 65536, 65537};

    public static void main(String[] args) {
        newObject();
        firstRoom();
        objectsShareNothing();
        lowestBytes();
        typedBytesOfAllValues();
        typeRefusesCounts();
        typeAtTheEndOfTheTape();
        fillTakesBytes();
        fillRefusesCounts();
        fillAtTheEndOfTheTape();
        usedUpBySuccess();
        usedUpByRefusal();
        leftAloneByOthers();
        refusedBytesLeaveTheTape();
        onePathWantsNoZero();
        twoPathsWantOneZero();
        zeroAtTheEdges();
        oldBytesAreGone();
        emptyTape();
        Check.end();
    }

    private static void newObject() {
        Check x = new Check("Promise 1: the root alone; the tape is empty");
        for (int file = 2; file <= 40; file++) {
            x.about(file, 0, Check.BAD);
        }
        int[] root = {2, 2, 0, 1, 1};
        for (int what = 0; what < root.length; what++) {
            x.about(1, what, root[what]);
        }
        x.count(0, 1);
        x.count(1, 0);
        x.count(2, 0);
        x.count(3, 1);
        x.type('a', 1, 1);
        x.find("", Check.NONE);
    }

    private static void firstRoom() {
        Check x = new Check("Promise 1: the room is 40");
        x.plain("f", 2);
        for (int name = 2; name <= 39; name++) {
            x.link("f", "n" + name, 2);
        }
        // The root takes 39, the file 1.
        x.count(3, 40);
        x.link("f", "n40", Check.FULL);
        x.symlink("l", "f", Check.FULL);
        x.room(40, 0);
        x.room(41, 1);
        x.link("f", "n40", 2);
    }

    private static void objectsShareNothing() {
        Check x = new Check("Promise 1: a new object, beside another");
        x.folder("d", 2);
        x.symlink("d/l", "/d", 3);
        x.room(9, 7);
        x.tape("d/l");
        Check y = new Check("Promise 1: a new object, behind another");
        y.count(2, 0);
        y.find("d", Check.NONE);
        y.room(40, 39);
        y.plain("f", 2);
        x.follow("", 2);
        x.about(2, 0, 2);
        y.about(2, 0, 1);
        y.about(3, 0, Check.BAD);
    }

    private static void lowestBytes() {
        String letters = "abcdefgh";
        for (int n = 1; n <= 8; n++) {
            Check x = new Check("Promise 2: the lowest n bytes, the highest of them first; n is " + n);
            x.type(0x6162636465666768L, n, n);
            x.due("make", x.read(0), 2);
            x.find(letters.substring(8 - n), 2);
            // Behind the tape, not before it.
            x.type('y', 1, 1);
            x.type(0x6162636465666768L, n, n + 1);
            x.type('z', 1, n + 2);
            x.due("make", x.read(0), 3);
            x.find("y" + letters.substring(8 - n) + "z", 3);
        }
    }

    private static void typedBytesOfAllValues() {
        Check x = new Check("Promise 2: bytes of all values");
        x.type(0x80FF7F01FE81C3A9L, 8, 8);
        x.due("make", x.read(0), 2);
        x.find("\u0080\u00FF\u007F\u0001\u00FE\u0081\u00C3\u00A9", 2);
        x.type(-1L, 8, 8);
        x.due("make", x.read(0), 3);
        x.find("\u00FF".repeat(8), 3);
        x.type(Long.MIN_VALUE, 8, 8);
        x.due("find", x.read(8), Check.BAD);
        x.type(Long.MIN_VALUE | 'a', 1, 1);
        x.due("make", x.read(0), 4);
        x.find("a", 4);
        // A byte 0 is a byte on the tape as any other.
        x.type(0x610062, 3, 3);
        x.due("link", x.read(3), 4);
        x.find("b", 4);
    }

    private static void typeRefusesCounts() {
        Check x = new Check("Promise 2: n is not 1 .. 8");
        x.type('a', 0, Check.BAD);
        x.type('a', 9, Check.BAD);
        for (int n : FAR) {
            x.type('a', n, Check.BAD);
        }
        x.count(2, 0);
        x.type('a', 1, 1);
        x.type(0x6161616161616161L, 8, 9);
    }

    private static void typeAtTheEndOfTheTape() {
        for (int n = 1; n <= 8; n++) {
            Check x = new Check("Promise 2: 1,200 bytes, the last " + n + " typed");
            x.fill('/', 1200 - n, 1200 - n);
            x.type(0x2F2F2F2F2F2F2F2FL, n, 1200);
            x.type('/', 1, Check.BAD);
            x.type(0, 8, Check.BAD);
            x.find("", 1);
            Check y = new Check("Promise 2: 1,201 bytes, the last " + n + " typed");
            y.fill('/', 1201 - n, 1201 - n);
            y.type(0, n, Check.BAD);
            y.count(2, 1201 - n);
            y.find("", 1);
        }
    }

    private static void fillTakesBytes() {
        Check x = new Check("Promise 3: n times a byte (0 .. 255)");
        x.fill(1, 1, 1);
        x.fill(255, 3, 4);
        x.fill(128, 2, 6);
        x.due("make", x.read(0), 2);
        x.find("\u0001\u00FF\u00FF\u00FF\u0080\u0080", 2);
        x.fill(0, 1, 1);
        x.find("", Check.BAD);
        x.fill(-1, 1, Check.BAD);
        x.fill(256, 1, Check.BAD);
        x.fill(256 + 'a', 1, Check.BAD);
        for (int c : FAR) {
            x.fill(c, 1, Check.BAD);
        }
        x.count(2, 0);
    }

    private static void fillRefusesCounts() {
        Check x = new Check("Promise 3: n not 1 .. 1200");
        x.fill('/', 0, Check.BAD);
        x.fill('/', 1201, Check.BAD);
        for (int n : FAR) {
            x.fill('/', n, Check.BAD);
        }
        x.count(2, 0);
        x.fill('/', 1, 1);
        x.find("", 1);
        x.fill('/', 1200, 1200);
        x.find("", 1);
    }

    private static void fillAtTheEndOfTheTape() {
        for (int before : new int[] {1, 2, 600, 1198, 1199}) {
            Check x = new Check("Promise 3: 1,200 bytes, " + before + " before");
            x.fill('/', before, before);
            x.fill(0, 1201 - before, Check.BAD);
            x.fill(0, 1200, Check.BAD);
            x.fill(0, Integer.MAX_VALUE, Check.BAD);
            x.count(2, before);
            x.fill('/', 1200 - before, 1200);
            x.fill(0, 1, Check.BAD);
            x.count(2, 1200);
            x.find("", 1);
        }
    }

    private static void usedUpBySuccess() {
        String[] tapes = {"a", "a", "", "f\0a", "a\0f", "f\0a", "f", "d", "f", "f", "f"};
        int[] want = {4, 4, Check.BAD, 2, 4, 2, 2, 3, 2, 2, 2};
        for (int reader = 0; reader < Check.READERS; reader++) {
            Check x = new Check("The tape: each call that reads it uses it up, reader " + reader);
            x.plain("f", 2);
            x.folder("d", 3);
            x.tape(tapes[reader]);
            x.due("the reader", x.read(reader), want[reader]);
            x.count(2, 0);
            x.due("find", x.read(8), 1);
        }
    }

    private static void usedUpByRefusal() {
        String[] tapes = {"\0\0", "f/x", "none/x", "\0", "f/x\0a", "f\0f/x", "/".repeat(1200), "n".repeat(1200)};
        for (int reader = 0; reader < Check.READERS; reader++) {
            Check x = new Check("The tape: used up, whatever is answered, reader " + reader);
            x.plain("f", 2);
            for (String tape : tapes) {
                x.tape(tape);
                int answer = x.read(reader);
                boolean leadsToRoot = tape.startsWith("/") && (reader == 8 || reader == 9);
                x.due("the reader on " + tape, answer < 0 ? 0 : answer, leadsToRoot ? 1 : 0);
                x.count(2, 0);
                x.due("find behind " + tape, x.read(8), 1);
            }
            // A tape that was full takes 1,200 bytes again.
            x.fill('/', 1200, 1200);
        }
    }

    private static void leftAloneByOthers() {
        Check x = new Check("The tape: calls that do not read it leave it");
        x.plain("f", 2);
        x.hold("f", 2);
        x.symlink("l", "f", 3);
        x.tape("l");
        x.room(30, 28);
        x.room(0, Check.BAD);
        x.release(2, 1);
        x.release(2, Check.BAD);
        x.about(2, 0, 1);
        x.about(2, 5, Check.BAD);
        x.targetByte(3, 0, 'f');
        x.targetByte(3, 1, Check.BAD);
        x.count(0, 3);
        x.count(4, Check.BAD);
        x.count(2, 1);
        x.follow("", 2);
    }

    private static void refusedBytesLeaveTheTape() {
        Check x = new Check("The tape: refused bytes leave it as it was");
        x.plain("ab", 2);
        x.tape("a");
        x.type('x', 0, Check.BAD);
        x.type('x', 9, Check.BAD);
        x.fill('x', 0, Check.BAD);
        x.fill('x', 1200, Check.BAD);
        x.fill(256, 1, Check.BAD);
        x.fill(-1, 1, Check.BAD);
        x.count(2, 1);
        x.tape("b");
        x.find("", 2);
    }

    private static void onePathWantsNoZero() {
        int[] readers = {0, 1, 6, 7, 8, 9, 10};
        String[] tapes = {"\0", "\0f", "f\0", "f\0f", "d\0d", "\0\0", "f/\0", "\0/f", "d/\0/f", "a\0b", "\0a"};
        for (int reader : readers) {
            Check x = new Check("The tape: a call for one path wants no byte 0, reader " + reader);
            x.plain("f", 2);
            x.folder("d", 3);
            for (String tape : tapes) {
                x.tape(tape);
                x.due("the reader on " + tape, x.read(reader), Check.BAD);
            }
            x.count(0, 3);
            x.count(1, 2);
            x.about(2, 2, 0);
        }
    }

    private static void twoPathsWantOneZero() {
        String[] tapes = {
            "f", "fg", "d/f", "f\0g\0", "\0f\0g", "f\0\0g", "f\0g\0h", "\0\0", "\0\0\0", "f/g", "0", "f\0\0"
        };
        for (int reader = 3; reader <= 5; reader++) {
            Check x = new Check("The tape: a byte 0 between two paths, and no other one, reader " + reader);
            x.plain("f", 2);
            x.folder("d", 3);
            for (String tape : tapes) {
                x.tape(tape);
                x.due("the reader on " + tape, x.read(reader), Check.BAD);
            }
            x.count(0, 3);
            x.count(1, 2);
        }
    }

    private static void zeroAtTheEdges() {
        Check x = new Check("The tape: the byte 0 as its first or last byte");
        x.plain("f", 2);
        // An empty first path is the root: link takes it for a folder, the others want a name.
        x.link("", "g", Check.FOLDER);
        x.rename("", "g", Check.BAD);
        x.symlink("", "f", Check.BAD);
        x.link("f", "", Check.BAD);
        x.rename("f", "", Check.BAD);
        x.symlink("g", "", Check.BAD);
        x.link("", "", Check.BAD);
        x.rename("", "", Check.BAD);
        x.symlink("", "", Check.BAD);
        x.fill('/', 1198, 1198);
        x.link("f", "", Check.BAD);
        x.fill('/', 1197, 1197);
        x.link("f", "g", 2);
        x.link("", "/".repeat(1198) + "h", Check.FOLDER);
        x.tape("f\0");
        x.fill('/', 1197, 1199);
        x.tape("i");
        x.due("link", x.read(3), 2);
        x.about(2, 1, 3);
        // The 1,200th byte is a byte 0.
        x.fill('/', 1199, 1199);
        x.fill(0, 1, 1200);
        x.find("", Check.BAD);
        x.tape("f");
        x.fill('/', 1198, 1199);
        x.fill(0, 1, 1200);
        x.find("", Check.BAD);
        x.tape("f\0j");
        x.fill('/', 1196, 1199);
        x.fill(0, 1, 1200);
        x.due("link", x.read(3), Check.BAD);
        x.count(1, 3);
    }

    private static void oldBytesAreGone() {
        Check x = new Check("The tape: what was used up is no part of what comes next");
        x.fill(0, 1200, 1200);
        x.find("", Check.BAD);
        x.plain("f", 2);
        x.tape("f");
        x.due("link", x.read(3), Check.BAD);
        x.fill(0, 1200, 1200);
        x.find("", Check.BAD);
        x.link("f", "g", 2);
        x.fill('x', 1200, 1200);
        x.find("", Check.LONG);
        x.find("f", 2);
        x.find("f/", 2);
        x.symlink("l", "f", 3);
        x.about(3, 2, 1);
        x.fill('.', 1200, 1200);
        x.find("", Check.LONG);
        x.find(".", 1);
        x.find("f/.", 2);
        x.plain(".", Check.BAD);
        x.find("..", 1);
    }

    private static void emptyTape() {
        int[] want = {
            Check.BAD, Check.BAD, Check.BAD, Check.BAD, Check.BAD, Check.BAD, Check.BAD, Check.BAD, 1, 1, Check.BAD
        };
        Check x = new Check("The tape: empty");
        x.plain("f", 2);
        for (int reader = 0; reader < Check.READERS; reader++) {
            x.due("reader " + reader, x.read(reader), want[reader]);
        }
        x.count(0, 2);
        x.count(1, 1);
    }
}
