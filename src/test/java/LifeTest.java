/** An object is used for at most 512 calls: the last ones answer as the first ones did. */
public final class LifeTest {
    public static void main(String[] args) {
        sameTurns();
        sameRefusals();
        longestWays();
        Check.end();
    }

    /** Files that come and go, so that all rows are used again and again. */
    private static void sameTurns() {
        Check x = new Check("512 calls, files come and go");
        for (int turn = 0; turn < 63; turn++) {
            x.type(0x6100742F74L, 5, 5);
            x.due("symlink", x.tree.symlink(), 2);
            x.type('b', 1, 1);
            x.due("make", x.tree.make(1), 3);
            x.type(0x610062L, 3, 3);
            x.due("rename", x.tree.rename(), 2);
            x.type('b', 1, 1);
            x.due("remove", x.tree.remove(), 2);
        }
        x.count(0, 1);
        x.count(1, 0);
        x.count(3, 1);
    }

    private static void sameRefusals() {
        Check x = new Check("512 calls, none of which changes anything");
        for (int turn = 0; turn < 127; turn++) {
            x.fill('n', 1200, 1200);
            x.due("make", x.tree.make(1), Check.LONG);
            x.due("make of an empty tape", x.tree.make(2), Check.BAD);
            x.room(201, Check.BAD);
        }
        x.type('a', 1, 1);
        x.due("make", x.tree.make(1), 2);
        x.type('a', 1, 1);
        x.due("find, the 512th call", x.tree.find(false), 2);
    }

    /** Each of these calls goes through forty targets of a thousand bytes. */
    private static void longestWays() {
        Check x = new Check("512 calls of the longest way");
        x.type(0x7600L, 2, 2);
        for (int piece = 0; piece < 125; piece++) {
            x.type(piece < 124 ? 0x2E2E2F2E2E2F2E2FL : 0x2E2E2F2E2E2F2F76L, 8, piece * 8 + 10);
        }
        x.due("symlink", x.tree.symlink(), 2);
        x.about(2, 2, 1000);
        for (int turn = 0; turn < 190; turn++) {
            x.type('v', 1, 1);
            x.due("find", x.tree.find(true), Check.LOOP);
        }
    }
}
