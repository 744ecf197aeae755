/** Promises 1 to 4: a new object, type, fill, room; and what the tape wants of the calls that read it. */
public final class TapeTest {
    public static void main(String[] args) {
        newObject();
        typed();
        filled();
        usedUp();
        zeros();
        room();
        Check.end();
    }

    private static void newObject() {
        Check x = new Check("promise 1");
        x.count(0, 1);
        x.count(1, 0);
        x.count(2, 0);
        x.count(3, 1);
        x.about(1, 0, 2);
        x.about(1, 1, 2);
        x.about(1, 2, 0);
        x.about(1, 3, 1);
        x.about(1, 4, 1);
        x.about(2, 0, Check.BAD);
        x.find("", 1);
        x.room(40, 39);
        Check full = new Check("promise 1, the first room is 40");
        for (int i = 0; i < 18; i++) {
            full.plain("f" + i, i + 2);
        }
        // 18 names and 18 plain files: 36; the next one takes 2, and so does the one behind it.
        full.count(3, 36);
        full.plain("g", 20);
        full.plain("h", 21);
        full.plain("i", Check.FULL);
        full.link("h", "i", Check.FULL);
        full.count(3, 40);
    }

    private static void typed() {
        Check x = new Check("promise 2");
        x.type(0x6162636465666768L, 8, 8);
        x.type(0x7A79L, 1, 9);
        x.plain("", 2);
        x.find("abcdefghy", 2);
        x.type(-1L, 2, 2);
        x.plain("", 3);
        x.find("\u00FF\u00FF", 3);
        x.type(0xFFFFFFFFFFFFFF61L, 1, 1);
        x.plain("", 4);
        x.find("a", 4);
        x.type(97, 0, Check.BAD);
        x.type(97, 9, Check.BAD);
        x.type(97, -1, Check.BAD);
        x.type(97, Integer.MIN_VALUE, Check.BAD);
        x.type(97, Integer.MAX_VALUE, Check.BAD);
        x.count(2, 0);
        x.fill(47, 1195, 1195);
        x.type(0, 6, Check.BAD);
        x.count(2, 1195);
        x.type(0x2F2F2F2F2FL, 5, 1200);
        x.type(47, 1, Check.BAD);
        x.count(2, 1200);
        x.find("", 1);
    }

    private static void filled() {
        Check x = new Check("promise 3");
        x.fill(255, 2, 2);
        x.fill(98, 1, 3);
        x.plain("", 2);
        x.find("\u00FF\u00FFb", 2);
        x.fill(-1, 1, Check.BAD);
        x.fill(256, 1, Check.BAD);
        x.fill(97, 0, Check.BAD);
        x.fill(97, -1, Check.BAD);
        x.fill(97, 1201, Check.BAD);
        x.fill(97, Integer.MAX_VALUE, Check.BAD);
        x.fill(97, Integer.MIN_VALUE, Check.BAD);
        x.count(2, 0);
        x.fill(0, 1, 1);
        x.fill(47, 1199, 1200);
        x.fill(47, 1, Check.BAD);
        x.fill(47, 1200, Check.BAD);
        x.count(2, 1200);
        x.find("", Check.BAD);
        x.count(2, 0);
        x.fill(47, 1200, 1200);
        x.find("", 1);
    }

    /** Each call that reads the tape uses it up, whatever it answers; the others leave it. */
    private static void usedUp() {
        Check x = new Check("the tape is used up");
        x.plain("f", 2);
        x.count(2, 0);
        for (int call = 0; call < 18; call++) {
            x.tape(call < 9 ? "f" : "\0");
            x.room(40, 38);
            x.release(9, Check.BAD);
            x.about(2, 0, 1);
            x.targetByte(2, 0, Check.BAD);
            x.count(2, 1);
            read(x.tree, call % 9);
            x.due("count 2 behind call " + call, x.tree.count(2), 0);
            // The sixth call removed it.
            x.plain("f", call == 5 ? 2 : Check.THERE);
        }
    }

    private static void read(NameTree tree, int call) {
        switch (call) {
            case 0 -> tree.make(1);
            case 1 -> tree.make(3);
            case 2 -> tree.link();
            case 3 -> tree.symlink();
            case 4 -> tree.rename();
            case 5 -> tree.remove();
            case 6 -> tree.removeFolder();
            case 7 -> tree.find(true);
            default -> tree.hold();
        }
    }

    private static void zeros() {
        Check x = new Check("bytes 0 on the tape");
        x.plain("a\0", Check.BAD);
        x.plain("\0", Check.BAD);
        x.folder("a\0b", Check.BAD);
        x.plain("a", 2);
        x.remove("a\0", Check.BAD);
        x.removeFolder("a\0a", Check.BAD);
        x.find("a\0", Check.BAD);
        x.follow("\0a", Check.BAD);
        x.hold("a\0", Check.BAD);
        x.tape("a");
        x.due("link without 0", x.tree.link(), Check.BAD);
        x.tape("a");
        x.due("rename without 0", x.tree.rename(), Check.BAD);
        x.tape("l");
        x.due("symlink without 0", x.tree.symlink(), Check.BAD);
        x.link("a", "b\0", Check.BAD);
        x.link("\0a", "b", Check.BAD);
        x.link("a\0", "b", Check.BAD);
        x.rename("a", "b\0", Check.BAD);
        x.rename("a", "\0b", Check.BAD);
        x.symlink("l", "a\0", Check.BAD);
        x.symlink("l", "\0a", Check.BAD);
        x.symlink("l", "a\0a", Check.BAD);
        // The tape is looked at before the path, which alone would be NONE, NOT_FOLDER and LONG.
        x.plain("x/y\0", Check.BAD);
        x.remove("a/y\0", Check.BAD);
        x.find("n".repeat(256) + "\0", Check.BAD);
        x.rename("a/y\0", "b", Check.BAD);
        x.count(0, 2);
        x.count(1, 1);
    }

    private static void room() {
        Check x = new Check("promise 4");
        x.room(200, 199);
        x.room(201, Check.BAD);
        x.room(Integer.MAX_VALUE, Check.BAD);
        x.room(0, Check.BAD);
        x.room(-1, Check.BAD);
        x.room(Integer.MIN_VALUE, Check.BAD);
        x.plain("a", 2);
        x.room(1, Check.BAD);
        x.room(2, 0);
        x.plain("b", Check.FULL);
        x.room(201, Check.BAD);
        x.plain("b", Check.FULL);
        x.room(3, 1);
        x.plain("b", 3);
        x.plain("c", Check.FULL);
        x.remove("a", 2);
        x.room(2, 0);
    }
}
