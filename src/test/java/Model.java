import java.util.ArrayList;
import java.util.LinkedList;
import java.util.List;
import java.util.Map;
import java.util.TreeMap;

/** The document written a second time, with the Java library and another way of going through paths. */
final class Model {
    private static final class Refusal extends Exception {
        private static final long serialVersionUID = 1L;
        final int answer;

        Refusal(int answer) {
            super(null, null, false, false);
            this.answer = answer;
        }
    }

    private static final class Node {
        final int kind;
        final TreeMap<String, Integer> names = new TreeMap<>();
        int greatest = 0;
        int holds = 0;
        String target = "";

        Node(int kind) {
            this.kind = kind;
        }

        int takes() {
            if (kind == 1) {
                return 1;
            }
            if (kind == 3) {
                return target.length() > 59 ? 1 : 0;
            }
            return greatest <= 3 ? 1 : greatest;
        }
    }

    /** Where a path led: the file's number, or 0, and its last part in its folder. */
    private record Place(int folder, String part, int file) { }

    private final TreeMap<Integer, Node> nodes = new TreeMap<>();
    private StringBuilder tape = new StringBuilder();
    private int room = 40;

    Model() {
        nodes.put(1, new Node(2));
    }

    int type(long characters, int n) {
        if (n < 1 || n > 8 || tape.length() + n > 1200) {
            return -1;
        }
        String hex = String.format("%016x", characters).substring(16 - 2 * n);
        for (int i = 0; i < n; i++) {
            tape.append((char) Integer.parseInt(hex.substring(2 * i, 2 * i + 2), 16));
        }
        return tape.length();
    }

    int fill(int c, int n) {
        if (c < 0 || c > 255 || n < 1 || n > 1200 || tape.length() + n > 1200) {
            return -1;
        }
        tape.append(String.valueOf((char) c).repeat(n));
        return tape.length();
    }

    int room(int n) {
        if (n > 200 || n < taken()) {
            return -1;
        }
        room = n;
        return n - taken();
    }

    int make(int kind) {
        String[] paths = read();
        try {
            if (kind != 1 && kind != 2) {
                return -1;
            }
            Place place = wanted(one(paths));
            if (place.file != 0) {
                return -3;
            }
            return add(place, new Node(kind));
        } catch (Refusal r) {
            return r.answer;
        }
    }

    int link() {
        String[] paths = read();
        try {
            two(paths);
            Place from = walk(paths[0], false);
            Place to = wanted(paths[1]);
            if (from.file == 0) {
                return -2;
            }
            if (nodes.get(from.file).kind == 2) {
                return -5;
            }
            if (to.file != 0) {
                return -3;
            }
            return name(to, from.file);
        } catch (Refusal r) {
            return r.answer;
        }
    }

    int symlink() {
        String[] paths = read();
        try {
            two(paths);
            if (paths[1].isEmpty() || paths[1].length() > 1000) {
                return -1;
            }
            Place place = wanted(paths[0]);
            if (place.file != 0) {
                return -3;
            }
            Node node = new Node(3);
            node.target = paths[1];
            return add(place, node);
        } catch (Refusal r) {
            return r.answer;
        }
    }

    int remove() {
        String[] paths = read();
        try {
            Place place = wanted(one(paths));
            if (place.file == 0) {
                return -2;
            }
            if (nodes.get(place.file).kind == 2) {
                return -5;
            }
            nodes.get(place.folder).names.remove(place.part);
            sweep();
            return place.file;
        } catch (Refusal r) {
            return r.answer;
        }
    }

    int removeFolder() {
        String[] paths = read();
        try {
            Place place = wanted(one(paths));
            if (place.file == 0) {
                return -2;
            }
            if (nodes.get(place.file).kind != 2) {
                return -4;
            }
            if (!nodes.get(place.file).names.isEmpty()) {
                return -6;
            }
            nodes.get(place.folder).names.remove(place.part);
            sweep();
            return place.file;
        } catch (Refusal r) {
            return r.answer;
        }
    }

    int rename() {
        String[] paths = read();
        try {
            two(paths);
            Place from = wanted(paths[0]);
            Place to = wanted(paths[1]);
            if (from.file == 0) {
                return -2;
            }
            if (from.file == to.file) {
                return from.file;
            }
            boolean folder = nodes.get(from.file).kind == 2;
            if (folder && isUnder(to.folder, from.file)) {
                return -10;
            }
            if (to.file != 0) {
                boolean otherFolder = nodes.get(to.file).kind == 2;
                if (folder && !otherFolder) {
                    return -4;
                }
                if (!folder && otherFolder) {
                    return -5;
                }
                if (otherFolder && !nodes.get(to.file).names.isEmpty()) {
                    return -6;
                }
            }
            return move(from, to);
        } catch (Refusal r) {
            return r.answer;
        }
    }

    /** Does it, looks how much is taken then, and undoes it if that is too much. */
    private int move(Place from, Place to) {
        TreeMap<Integer, Node> before = new TreeMap<>(nodes);
        Node target = nodes.get(to.folder);
        int greatest = target.greatest;
        target.names.remove(to.part);
        nodes.get(from.folder).names.remove(from.part);
        target.names.put(to.part, from.file);
        target.greatest = Math.max(greatest, target.names.size());
        sweep();
        if (taken() <= room) {
            return from.file;
        }
        nodes.clear();
        nodes.putAll(before);
        target.names.remove(to.part);
        target.greatest = greatest;
        nodes.get(from.folder).names.put(from.part, from.file);
        if (to.file != 0) {
            target.names.put(to.part, to.file);
        }
        return -7;
    }

    int find(boolean follow) {
        String[] paths = read();
        try {
            Place place = walk(one(paths), follow);
            return place.file == 0 ? -2 : place.file;
        } catch (Refusal r) {
            return r.answer;
        }
    }

    int hold() {
        String[] paths = read();
        try {
            Place place = walk(one(paths), true);
            if (place.file == 0) {
                return -2;
            }
            Node node = nodes.get(place.file);
            if (node.kind != 1 || node.holds == 100) {
                return -1;
            }
            node.holds++;
            return place.file;
        } catch (Refusal r) {
            return r.answer;
        }
    }

    int release(int file) {
        Node node = nodes.get(file);
        if (node == null || node.holds == 0) {
            return -1;
        }
        node.holds--;
        int left = namesOf(file);
        sweep();
        return left;
    }

    int about(int file, int what) {
        Node node = nodes.get(file);
        if (node == null || what < 0 || what > 4) {
            return -1;
        }
        if (what == 0) {
            return node.kind;
        }
        if (what == 1) {
            return node.kind != 2 ? namesOf(file)
                    : 2 + (int) node.names.values().stream().filter(n -> nodes.get(n).kind == 2).count();
        }
        if (what == 2) {
            return node.kind == 2 ? node.names.size() : node.kind == 3 ? node.target.length() : node.holds;
        }
        if (what == 3) {
            return node.takes();
        }
        return node.kind == 2 ? parentOf(file) : 0;
    }

    int targetByte(int file, int i) {
        Node node = nodes.get(file);
        if (node == null || node.kind != 3 || i < 0 || i >= node.target.length()) {
            return -1;
        }
        return node.target.charAt(i);
    }

    int count(int what) {
        switch (what) {
            case 0: return nodes.size();
            case 1: return allNames();
            case 2: return tape.length();
            case 3: return taken();
            default: return -1;
        }
    }

    private String[] read() {
        String all = tape.toString();
        tape = new StringBuilder();
        return all.split("\0", -1);
    }

    private static String one(String[] paths) throws Refusal {
        if (paths.length != 1) {
            throw new Refusal(-1);
        }
        return paths[0];
    }

    private static void two(String[] paths) throws Refusal {
        if (paths.length != 2) {
            throw new Refusal(-1);
        }
    }

    private static List<String> partsOf(String path) {
        List<String> parts = new ArrayList<>();
        for (String part : path.split("/")) {
            if (!part.isEmpty() && !part.equals(".")) {
                parts.add(part);
            }
        }
        return parts;
    }

    private Place wanted(String path) throws Refusal {
        Place place = walk(path, false);
        List<String> parts = partsOf(path);
        if (parts.isEmpty() || parts.get(parts.size() - 1).equals("..")) {
            throw new Refusal(-1);
        }
        return place;
    }

    /** Goes through the parts by really putting a target's parts in the place of the link's. */
    private Place walk(String path, boolean follow) throws Refusal {
        LinkedList<String> parts = new LinkedList<>(partsOf(path));
        Place at = new Place(0, "", 1);
        int links = 0;
        while (!parts.isEmpty()) {
            String part = parts.removeFirst();
            if (part.length() > 255) {
                throw new Refusal(-9);
            }
            if (nodes.get(at.file).kind != 2) {
                throw new Refusal(-4);
            }
            int folder = at.file;
            if (part.equals("..")) {
                at = new Place(folder, part, parentOf(folder));
                continue;
            }
            int file = nodes.get(folder).names.getOrDefault(part, 0);
            if (file == 0 && !parts.isEmpty()) {
                throw new Refusal(-2);
            }
            at = new Place(folder, part, file);
            if (file != 0 && nodes.get(file).kind == 3 && (follow || !parts.isEmpty())) {
                links++;
                if (links == 41) {
                    throw new Refusal(-8);
                }
                String target = nodes.get(file).target;
                parts.addAll(0, partsOf(target));
                at = new Place(0, "", target.startsWith("/") ? 1 : folder);
            }
        }
        return at;
    }

    private int add(Place place, Node node) {
        int number = 1;
        while (nodes.containsKey(number)) {
            number++;
        }
        if (number > 40) {
            return -7;
        }
        nodes.put(number, node);
        int answer = name(place, number);
        if (answer < 0) {
            nodes.remove(number);
        }
        return answer;
    }

    private int name(Place place, int file) {
        Node folder = nodes.get(place.folder);
        int greatest = folder.greatest;
        folder.names.put(place.part, file);
        folder.greatest = Math.max(greatest, folder.names.size());
        if (taken() > room || allNames() > 60) {
            folder.names.remove(place.part);
            folder.greatest = greatest;
            return -7;
        }
        return file;
    }

    private void sweep() {
        nodes.entrySet().removeIf(e -> e.getKey() != 1 && e.getValue().holds == 0 && namesOf(e.getKey()) == 0);
    }

    private int namesOf(int file) {
        int names = 0;
        for (Node node : nodes.values()) {
            for (int named : node.names.values()) {
                names += named == file ? 1 : 0;
            }
        }
        return names;
    }

    private int parentOf(int folder) {
        for (Map.Entry<Integer, Node> e : nodes.entrySet()) {
            if (e.getValue().names.containsValue(folder)) {
                return e.getKey();
            }
        }
        return 1;
    }

    private boolean isUnder(int folder, int outer) {
        return folder == outer || folder != 1 && isUnder(parentOf(folder), outer);
    }

    private int allNames() {
        return nodes.values().stream().mapToInt(n -> n.names.size()).sum();
    }

    private int taken() {
        return nodes.values().stream().mapToInt(Node::takes).sum();
    }
}
