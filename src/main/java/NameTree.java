/** A tree of names: folders, plain files and links, which are led to by paths. */
public final class NameTree {
    private static final int FINE = 0;
    private static final int BAD = -1;
    private static final int NONE = -2;
    private static final int THERE = -3;
    private static final int NOT_FOLDER = -4;
    private static final int IS_FOLDER = -5;
    private static final int NOT_EMPTY = -6;
    private static final int FULL = -7;
    private static final int LOOP = -8;
    private static final int LONG = -9;
    private static final int INSIDE = -10;

    private static final int ABSENT = 0;
    private static final int PLAIN = 1;
    private static final int FOLDER = 2;
    private static final int LINK = 3;

    private static final int MOST_FILES = 40;
    private static final int MOST_NAMES = 60;
    private static final int MOST_NAME_BYTES = 255;
    private static final int MOST_TARGET_BYTES = 1000;
    private static final int MOST_TAPE_BYTES = 1200;
    private static final int MOST_LINKS = 40;
    private static final int MOST_HOLDS = 100;
    private static final int MOST_ROOM = 200;
    private static final int FIRST_ROOM = 40;
    private static final int FREE_TARGET_BYTES = 59;
    private static final int FREE_NAMES = 3;
    private static final int BYTES_IN_LONG = 8;

    // Far above the parts of one tape and of forty targets together.
    private static final int MOST_STEPS = 1000000;

    private static final int SLASH = 47;
    private static final int DOT = 46;

    private final Tape tape;
    private final FileTable files;
    private final NameTable names;
    private final Walk first;
    private final Walk second;
    private int roomInAll;

    public NameTree() {
        tape = new Tape();
        files = new FileTable();
        names = new NameTable();
        first = new Walk(files.root, names);
        second = new Walk(files.root, names);
        roomInAll = FIRST_ROOM;
    }

    public int type(long characters, int n) {
        if (n < 1 || n > BYTES_IN_LONG || !tape.hasSpaceFor(n)) {
            return BAD;
        }
        for (int left = n - 1; left >= 0; left--) {
            tape.append((byte) (characters >>> (8 * left)));
        }
        return tape.length;
    }

    public int fill(int c, int n) {
        if (c < 0 || c > 255 || n < 1 || n > MOST_TAPE_BYTES || !tape.hasSpaceFor(n)) {
            return BAD;
        }
        for (int i = 0; i < n; i++) {
            tape.append((byte) c);
        }
        return tape.length;
    }

    public int room(int n) {
        int taken = files.taken();
        if (n > MOST_ROOM || n < taken) {
            return BAD;
        }
        roomInAll = n;
        return n - taken;
    }

    public int make(int kind) {
        // Read before the kind is looked at: a refused kind uses the tape up, too.
        int answer = readName();
        if (kind != PLAIN && kind != FOLDER) {
            return BAD;
        }
        if (answer != FINE) {
            return answer;
        }
        if (first.here != null) {
            return THERE;
        }
        TreeFile file = files.absent();
        // A new plain file and a new folder both take 1.
        if (file == null || isFullFor(first.folder, 1)) {
            return FULL;
        }
        file.begin(kind);
        names.give(file, first);
        return file.number;
    }

    public int link() {
        int answer = readTwoPaths(false);
        if (answer != FINE) {
            return answer;
        }
        TreeFile file = first.here;
        if (file == null) {
            return NONE;
        }
        if (file.kind == FOLDER) {
            return IS_FOLDER;
        }
        if (second.here != null) {
            return THERE;
        }
        if (isFullFor(second.folder, 0)) {
            return FULL;
        }
        names.give(file, second);
        return file.number;
    }

    public int symlink() {
        int end = tape.useUp();
        int zero = tape.onlyZero(end);
        int targetLength = end - zero - 1;
        if (zero < 0 || targetLength < 1 || targetLength > MOST_TARGET_BYTES) {
            return BAD;
        }
        int answer = first.goToName(tape.bytes, 0, zero);
        if (answer != FINE) {
            return answer;
        }
        if (first.here != null) {
            return THERE;
        }
        TreeFile file = files.absent();
        if (file == null || isFullFor(first.folder, roomOfTarget(targetLength))) {
            return FULL;
        }
        file.begin(LINK);
        file.setTarget(tape.bytes, zero + 1, targetLength);
        names.give(file, first);
        return file.number;
    }

    public int remove() {
        int answer = readName();
        if (answer != FINE) {
            return answer;
        }
        TreeFile file = first.here;
        if (file == null) {
            return NONE;
        }
        if (file.kind == FOLDER) {
            return IS_FOLDER;
        }
        takeAway(first.name);
        return file.number;
    }

    public int removeFolder() {
        int answer = readName();
        if (answer != FINE) {
            return answer;
        }
        TreeFile file = first.here;
        if (file == null) {
            return NONE;
        }
        if (file.kind != FOLDER) {
            return NOT_FOLDER;
        }
        if (file.inside > 0) {
            return NOT_EMPTY;
        }
        takeAway(first.name);
        return file.number;
    }

    public int rename() {
        int answer = readTwoPaths(true);
        if (answer != FINE) {
            return answer;
        }
        TreeFile file = first.here;
        if (file == null) {
            return NONE;
        }
        TreeFile replaced = second.here;
        if (replaced == file) {
            return file.number;
        }
        if (file.kind == FOLDER && isWithin(second.folder, file)) {
            return INSIDE;
        }
        answer = replaced == null ? refusalOfMove() : refusalOfReplacing(file, replaced);
        if (answer != FINE) {
            return answer;
        }
        takeAway(second.name);
        // Not takeAway: the file stays there while it has no name for a moment.
        names.drop(first.name);
        names.give(file, second);
        return file.number;
    }

    public int find(boolean follow) {
        int answer = readPath(follow);
        if (answer != FINE) {
            return answer;
        }
        return first.here == null ? NONE : first.here.number;
    }

    public int hold() {
        int answer = readPath(true);
        if (answer != FINE) {
            return answer;
        }
        TreeFile file = first.here;
        if (file == null) {
            return NONE;
        }
        if (file.kind != PLAIN || file.held >= MOST_HOLDS) {
            return BAD;
        }
        file.held++;
        return file.number;
    }

    public int release(int file) {
        TreeFile released = files.at(file);
        if (released == null || released.held < 1) {
            return BAD;
        }
        released.held--;
        int left = released.names;
        released.goIfUnused();
        return left;
    }

    public int about(int file, int what) {
        TreeFile asked = files.at(file);
        if (asked == null) {
            return BAD;
        }
        switch (what) {
            case 0:
                return asked.kind;
            case 1:
                return asked.kind == FOLDER ? 2 + files.foldersIn(asked) : asked.names;
            case 2:
                return asked.size();
            case 3:
                return asked.takes();
            case 4:
                return asked.parent == null ? 0 : asked.parent.number;
            default:
                return BAD;
        }
    }

    public int targetByte(int file, int i) {
        TreeFile asked = files.at(file);
        return asked == null ? BAD : asked.byteOfTarget(i);
    }

    public int count(int what) {
        switch (what) {
            case 0:
                return files.present();
            case 1:
                return names.used;
            case 2:
                return tape.length;
            case 3:
                return files.taken();
            default:
                return BAD;
        }
    }

    private int readPath(boolean follow) {
        int end = tape.useUp();
        return tape.hasZero(end) ? BAD : first.go(tape.bytes, 0, end, follow);
    }

    private int readName() {
        int end = tape.useUp();
        return tape.hasZero(end) ? BAD : first.goToName(tape.bytes, 0, end);
    }

    private int readTwoPaths(boolean firstWantsName) {
        int end = tape.useUp();
        int zero = tape.onlyZero(end);
        if (zero < 0) {
            return BAD;
        }
        int answer = firstWantsName
                ? first.goToName(tape.bytes, 0, zero)
                : first.go(tape.bytes, 0, zero, false);
        return answer != FINE ? answer : second.goToName(tape.bytes, zero + 1, end);
    }

    private boolean isFullFor(TreeFile folder, int newFileTakes) {
        return names.used >= MOST_NAMES || isTooMuch(folder, newFileTakes);
    }

    private boolean isTooMuch(TreeFile folder, int newFileTakes) {
        int growth = folder == null ? 0 : folder.growthByOneName();
        return files.taken() + newFileTakes + growth > roomInAll;
    }

    private int refusalOfMove() {
        // In one folder the first name has gone before the second one comes.
        boolean oneFolder = first.folder == second.folder;
        return !oneFolder && isTooMuch(second.folder, 0) ? FULL : FINE;
    }

    private static int refusalOfReplacing(TreeFile file, TreeFile replaced) {
        if (file.kind == FOLDER && replaced.kind != FOLDER) {
            return NOT_FOLDER;
        }
        if (file.kind != FOLDER && replaced.kind == FOLDER) {
            return IS_FOLDER;
        }
        return replaced.inside > 0 ? NOT_EMPTY : FINE;
    }

    private static boolean isWithin(TreeFile folder, TreeFile outer) {
        TreeFile at = folder;
        for (int depth = 0; depth < MOST_FILES && at != null; depth++) {
            if (at == outer) {
                return true;
            }
            at = at.parent;
        }
        return false;
    }

    private void takeAway(NameRow name) {
        if (name == null) {
            return;
        }
        TreeFile file = name.file;
        names.drop(name);
        if (file != null) {
            file.goIfUnused();
        }
    }

    private static int roomOfTarget(int targetLength) {
        return targetLength > FREE_TARGET_BYTES ? 1 : 0;
    }

    private static int roomOfFolder(int mostNames) {
        return mostNames > FREE_NAMES ? mostNames : 1;
    }

    /** The bytes that wait for the next call that reads paths. */
    private static final class Tape {
        final byte[] bytes = new byte[MOST_TAPE_BYTES];
        int length;

        boolean hasSpaceFor(int n) {
            return n <= MOST_TAPE_BYTES - length;
        }

        void append(byte b) {
            if (length >= 0 && length < bytes.length) {
                bytes[length] = b;
                length++;
            }
        }

        /** How many bytes there were; they can still be read until the next one is appended. */
        int useUp() {
            int end = length;
            length = 0;
            return end;
        }

        boolean hasZero(int end) {
            return zeroFrom(0, end) >= 0;
        }

        /** Where the one byte 0 is, or -1 if there is none or more than one. */
        int onlyZero(int end) {
            int zero = zeroFrom(0, end);
            return zero >= 0 && zeroFrom(zero + 1, end) < 0 ? zero : -1;
        }

        private int zeroFrom(int from, int end) {
            for (int i = from; i >= 0 && i < end && i < bytes.length; i++) {
                if (bytes[i] == 0) {
                    return i;
                }
            }
            return -1;
        }
    }

    /** A file of any kind, or, while its kind is ABSENT, a number that no file has. */
    private static final class TreeFile {
        final int number;
        int kind;
        int names;
        int held;
        int inside;
        int mostInside;
        TreeFile parent;
        // Made for the first link with this number, and used again by the later ones.
        byte[] target;
        int targetLength;

        TreeFile(int number) {
            this.number = number;
        }

        void begin(int newKind) {
            kind = newKind;
            names = 0;
            held = 0;
            inside = 0;
            mostInside = 0;
            parent = null;
            targetLength = 0;
        }

        void setTarget(byte[] from, int start, int length) {
            if (target == null) {
                target = new byte[MOST_TARGET_BYTES];
            }
            targetLength = copyBytes(from, start, length, target);
        }

        int byteOfTarget(int i) {
            if (kind != LINK || target == null || i < 0 || i >= targetLength || i >= target.length) {
                return BAD;
            }
            return target[i] & 255;
        }

        int takes() {
            switch (kind) {
                case PLAIN:
                    return 1;
                case FOLDER:
                    return roomOfFolder(mostInside);
                case LINK:
                    return roomOfTarget(targetLength);
                default:
                    return 0;
            }
        }

        int growthByOneName() {
            return roomOfFolder(Math.max(mostInside, inside + 1)) - roomOfFolder(mostInside);
        }

        int size() {
            switch (kind) {
                case PLAIN:
                    return held;
                case FOLDER:
                    return inside;
                case LINK:
                    return targetLength;
                default:
                    return 0;
            }
        }

        void goIfUnused() {
            if (names == 0 && held == 0) {
                begin(ABSENT);
            }
        }
    }

    /** All files by their numbers. */
    private static final class FileTable {
        private final TreeFile[] all = new TreeFile[MOST_FILES];
        final TreeFile root = new TreeFile(1);

        FileTable() {
            root.begin(FOLDER);
            root.parent = root;
            all[0] = root;
            for (int i = 1; i < all.length; i++) {
                all[i] = new TreeFile(i + 1);
            }
        }

        /** The file with that number, or null. */
        TreeFile at(int number) {
            if (number < 1 || number > all.length) {
                return null;
            }
            TreeFile file = all[number - 1];
            return file == null || file.kind == ABSENT ? null : file;
        }

        /** What can become a file with the least free number, or null. */
        TreeFile absent() {
            for (TreeFile file : all) {
                if (file != null && file.kind == ABSENT) {
                    return file;
                }
            }
            return null;
        }

        int present() {
            int present = 0;
            for (TreeFile file : all) {
                if (file != null && file.kind != ABSENT) {
                    present++;
                }
            }
            return present;
        }

        int taken() {
            int taken = 0;
            for (TreeFile file : all) {
                if (file != null) {
                    taken += file.takes();
                }
            }
            return taken;
        }

        int foldersIn(TreeFile folder) {
            int folders = 0;
            for (TreeFile file : all) {
                // The root is its own parent, but not in itself.
                if (file != null && file != root && file.parent == folder) {
                    folders++;
                }
            }
            return folders;
        }
    }

    /** A name in a folder, or, while it has no file, a row that waits for one. */
    private static final class NameRow {
        TreeFile folder;
        TreeFile file;
        // Made for the first name in this row, and used again by the later ones.
        private byte[] bytes;
        private int length;

        void setBytes(byte[] from, int start, int count) {
            if (bytes == null) {
                bytes = new byte[MOST_NAME_BYTES];
            }
            length = copyBytes(from, start, count, bytes);
        }

        boolean is(byte[] other, int from, int count) {
            if (bytes == null || other == null || count != length || count > bytes.length
                    || from < 0 || count > other.length - from) {
                return false;
            }
            for (int i = 0; i < count; i++) {
                if (bytes[i] != other[from + i]) {
                    return false;
                }
            }
            return true;
        }
    }

    /** All names; the rows in use come before the others. */
    private static final class NameTable {
        private final NameRow[] rows = new NameRow[MOST_NAMES];
        int used;

        NameTable() {
            for (int i = 0; i < rows.length; i++) {
                rows[i] = new NameRow();
            }
        }

        NameRow lookUp(TreeFile folder, byte[] bytes, int from, int length) {
            for (int i = 0; i < used && i < rows.length; i++) {
                NameRow row = rows[i];
                if (row != null && row.folder == folder && row.is(bytes, from, length)) {
                    return row;
                }
            }
            return null;
        }

        /** The file gets the name to which the walk led. */
        void give(TreeFile file, Walk walk) {
            if (used < 0 || used >= rows.length) {
                return;
            }
            NameRow row = rows[used];
            TreeFile folder = walk.folder;
            if (row == null || folder == null) {
                return;
            }
            used++;
            row.setBytes(walk.partBytes, walk.partFrom, walk.partLength);
            row.folder = folder;
            row.file = file;
            folder.inside++;
            folder.mostInside = Math.max(folder.mostInside, folder.inside);
            file.names++;
            if (file.kind == FOLDER) {
                file.parent = folder;
            }
        }

        void drop(NameRow row) {
            int last = used - 1;
            for (int i = 0; i <= last && last < rows.length; i++) {
                if (rows[i] == row) {
                    rows[i] = rows[last];
                    rows[last] = row;
                    used = last;
                    forget(row);
                    return;
                }
            }
        }

        private static void forget(NameRow row) {
            if (row == null) {
                return;
            }
            if (row.folder != null) {
                row.folder.inside--;
            }
            if (row.file != null) {
                row.file.names--;
            }
            row.folder = null;
            row.file = null;
        }
    }

    /** Bytes whose parts are still to be gone through. */
    private static final class Span {
        byte[] bytes;
        int at;
        int end;

        /** Goes over the parts that are empty or a dot: whether another one is left. */
        boolean goToPart() {
            while (at < end) {
                boolean leftOut = holds(at, SLASH)
                        || holds(at, DOT) && (at + 1 >= end || holds(at + 1, SLASH));
                if (!leftOut) {
                    return true;
                }
                at++;
            }
            return false;
        }

        /** Goes over the part that begins here: where it ends. */
        int passPart() {
            while (at < end && !holds(at, SLASH)) {
                at++;
            }
            return at;
        }

        private boolean holds(int i, int b) {
            return bytes != null && i >= 0 && i < bytes.length && bytes[i] == b;
        }
    }

    /** Goes through one path, and keeps where it led. */
    private static final class Walk {
        private final TreeFile root;
        private final NameTable names;
        // The rest of the path, and over it the rests of the targets that came into it.
        private final Span[] spans = new Span[MOST_LINKS + 1];
        private int depth;
        private int links;

        /** The last part; it has no bytes if there was no part. */
        byte[] partBytes;
        int partFrom;
        int partLength;
        /** The folder in which the last part was looked for. */
        TreeFile folder;
        /** The last part as a name, or null: it is not there, or is no name. */
        NameRow name;
        /** The file that was led to, or null: it is not there. */
        TreeFile here;

        Walk(TreeFile root, NameTable names) {
            this.root = root;
            this.names = names;
            for (int i = 0; i < spans.length; i++) {
                spans[i] = new Span();
            }
        }

        int goToName(byte[] bytes, int from, int to) {
            int answer = go(bytes, from, to, false);
            if (answer != FINE) {
                return answer;
            }
            return partLength == 0 || isUp() ? BAD : FINE;
        }

        int go(byte[] bytes, int from, int to, boolean follow) {
            begin();
            push(bytes, from, to);
            for (int steps = 0; steps < MOST_STEPS && hasPart(); steps++) {
                takePart();
                int answer = step(!hasPart(), follow);
                if (answer != FINE) {
                    return answer;
                }
            }
            return FINE;
        }

        private void begin() {
            depth = 0;
            links = 0;
            partBytes = null;
            partFrom = 0;
            partLength = 0;
            folder = root;
            name = null;
            here = root;
        }

        private void push(byte[] bytes, int from, int to) {
            if (depth < 0 || depth >= spans.length || spans[depth] == null) {
                return;
            }
            Span span = spans[depth];
            span.bytes = bytes;
            span.at = from;
            span.end = to;
            depth++;
        }

        /** Whether a part is left anywhere; spans without one are taken off. */
        private boolean hasPart() {
            for (; depth > 0; depth--) {
                Span top = topSpan();
                if (top != null && top.goToPart()) {
                    return true;
                }
            }
            return false;
        }

        private Span topSpan() {
            return depth > 0 && depth <= spans.length ? spans[depth - 1] : null;
        }

        private void takePart() {
            Span top = topSpan();
            if (top != null) {
                partBytes = top.bytes;
                partFrom = top.at;
                partLength = top.passPart() - partFrom;
            }
        }

        private int step(boolean last, boolean follow) {
            if (partLength > MOST_NAME_BYTES) {
                return LONG;
            }
            if (here == null || here.kind != FOLDER) {
                return NOT_FOLDER;
            }
            folder = here;
            if (isUp()) {
                name = null;
                here = folder.parent;
                return FINE;
            }
            name = names.lookUp(folder, partBytes, partFrom, partLength);
            if (name == null) {
                here = null;
                return last ? FINE : NONE;
            }
            here = name.file;
            boolean through = here != null && here.kind == LINK && (follow || !last);
            return through ? goThrough(here) : FINE;
        }

        private int goThrough(TreeFile link) {
            if (links >= MOST_LINKS) {
                return LOOP;
            }
            links++;
            push(link.target, 0, link.targetLength);
            here = link.byteOfTarget(0) == SLASH ? root : folder;
            return FINE;
        }

        private boolean isUp() {
            return partLength == 2 && partBytes != null && partFrom >= 0 && partFrom < partBytes.length - 1
                    && partBytes[partFrom] == DOT && partBytes[partFrom + 1] == DOT;
        }
    }

    /** Copies to the begin of a row as much as both rows hold: how much that was. */
    private static int copyBytes(byte[] from, int start, int length, byte[] to) {
        if (from == null || to == null || start < 0 || start > from.length || length < 0) {
            return 0;
        }
        int copied = Math.min(length, Math.min(from.length - start, to.length));
        System.arraycopy(from, start, to, 0, copied);
        return copied;
    }
}
