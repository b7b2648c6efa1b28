import java.util.ArrayList;
import java.util.List;
import java.util.Set;
import java.util.TreeSet;

/**
 * A second program for the same document, to compare answers with. It is written in another way, so that a slip is
 * not made twice: the items become a tree that is walked by recursion, bytes are texts of the digits 0 and 1, and
 * the check carries along every set of variables that some way has set.
 */
final class Model {
    private static final int OK = 0, STRUCTURE = 1, UNSET = 2, SHORT = 3, RANGE = 4, MISMATCH = 5, PADDING = 6,
        LEFT = 7, MANY = 8, NOT_READY = 9, REFUSED = -1;

    private static final class Node {
        int number;
        int kind;
        int a;
        int b;
        int end;
        List<Node> first = new ArrayList<>();
        List<Node> second = new ArrayList<>();
    }

    private static final class Ended extends Exception {
        private static final long serialVersionUID = 1;
        final int answer;
        final int item;

        Ended(int answer, int item) {
            this.answer = answer;
            this.item = item;
        }
    }

    private List<int[]> items = new ArrayList<>();
    private List<Node> format = null;
    private int formatSize = 0;
    private StringBuilder input = new StringBuilder();
    private List<Integer> list = new ArrayList<>();
    private String output = "";
    private int[] variables = new int[8];
    private int place = -1;
    private int at = 0;

    private boolean writing;
    private StringBuilder bits = new StringBuilder();
    private int position;
    private int limit;
    private int used;
    private int steps;

    int put(int kind, int a, int b) {
        if (kind < 0 || kind > 13 || items.size() == 40) {
            return REFUSED;
        }
        int[] leastA = {1, 0, 1, 0, 0, 0, 0, 0, 2, 0, 0, 0, 0, 0};
        int[] mostA = {4, -1, 16, 255, -1, -1, -1, -1, 8, -1, -1, -1, -1, -1};
        int[] mostB = {31, 7, 7, -1, 7, 7, 7, -1, -1, 7, 7, 7, -1, -1};
        if (mostA[kind] >= 0 && (a < leastA[kind] || a > mostA[kind]) || mostB[kind] >= 0 && (b < 0 || b > mostB[kind])) {
            return REFUSED;
        }
        items.add(new int[] {kind, a, b});
        return items.size();
    }

    int wipe() {
        int before = items.size();
        items = new ArrayList<>();
        return before;
    }

    int compile() {
        try {
            int[] next = {0};
            List<Node> tree = grow(next, 0, null);
            Set<Integer> none = new TreeSet<>();
            none.add(0);
            Set<Integer> faults = new TreeSet<>();
            ways(tree, none, faults);
            if (!faults.isEmpty()) {
                throw new Ended(UNSET, faults.iterator().next());
            }
            format = tree;
            formatSize = items.size();
            place = -1;
            return OK;
        } catch (Ended ended) {
            place = ended.item;
            return ended.answer;
        }
    }

    private List<Node> grow(int[] next, int depth, Node parent) throws Ended {
        List<Node> nodes = new ArrayList<>();
        List<Node> part = nodes;
        boolean hadElse = false;
        while (next[0] < items.size()) {
            int number = next[0]++;
            int[] item = items.get(number);
            if (item[0] == 13 && parent != null) {
                parent.end = number;
                return nodes;
            }
            if (item[0] == 12 && parent != null && parent.kind == 5 && !hadElse) {
                hadElse = true;
                part = parent.second;
                continue;
            }
            boolean opens = item[0] >= 4 && item[0] <= 6;
            if (item[0] >= 12 || opens && depth == 4) {
                throw new Ended(STRUCTURE, number);
            }
            Node node = new Node();
            node.number = number;
            node.kind = item[0];
            node.a = item[1];
            node.b = item[2];
            part.add(node);
            if (opens) {
                node.first = grow(next, depth + 1, node);
            }
        }
        if (parent != null) {
            throw new Ended(STRUCTURE, items.size());
        }
        return nodes;
    }

    private Set<Integer> ways(List<Node> nodes, Set<Integer> before, Set<Integer> faults) {
        Set<Integer> masks = new TreeSet<>(before);
        for (Node node : nodes) {
            int own = 1 << node.b % 8;
            Set<Integer> behind = new TreeSet<>();
            for (int mask : masks) {
                boolean needs = node.kind >= 4 && node.kind <= 6 || node.kind == 9 || node.kind == 11;
                if (needs && (mask & own) == 0) {
                    faults.add(node.number);
                }
                behind.add(node.kind <= 2 || node.kind == 10 || node.kind == 11 ? mask | own : mask);
            }
            if (node.kind == 5) {
                behind = ways(node.first, masks, faults);
                behind.addAll(ways(node.second, masks, faults));
            } else if (node.kind == 6) {
                behind = ways(node.first, masks, faults);
            } else if (node.kind == 4) {
                behind = new TreeSet<>(masks);
                boolean grown = true;
                while (grown) {
                    grown = behind.addAll(ways(node.first, behind, faults));
                }
            }
            masks = behind;
        }
        return masks;
    }

    int feed(int w, int n) {
        if (n < 1 || n > 4) {
            return REFUSED;
        }
        for (int i = 0; i < n && input.length() < 64 * 8; i++) {
            input.append(digits(w >> 8 * i & 255, 8));
        }
        return input.length() / 8;
    }

    int value(int v) {
        if (list.size() == 40) {
            return REFUSED;
        }
        list.add(v);
        return list.size();
    }

    int drop() {
        int before = list.size();
        list = new ArrayList<>();
        return before;
    }

    int parse() {
        if (format == null) {
            return NOT_READY;
        }
        list = new ArrayList<>();
        bits = input;
        int answer = run(false, input.length());
        input = new StringBuilder();
        return answer;
    }

    int write() {
        if (format == null) {
            return NOT_READY;
        }
        bits = new StringBuilder();
        int answer = run(true, 64 * 8);
        output = bits.substring(0, bits.length() / 8 * 8);
        return answer;
    }

    private int run(boolean write, int most) {
        writing = write;
        limit = most;
        position = 0;
        used = 0;
        steps = 0;
        variables = new int[8];
        try {
            walk(format);
            at = reached();
            close(formatSize);
            if (writing ? used < list.size() : position < bits.length()) {
                throw new Ended(LEFT, formatSize);
            }
            place = -1;
            return OK;
        } catch (Ended ended) {
            place = ended.item;
            return ended.answer;
        }
    }

    private int reached() {
        return (position + 7) / 8;
    }

    private void walk(List<Node> nodes) throws Ended {
        for (Node node : nodes) {
            at = reached();
            steps++;
            boolean number = node.kind <= 2;
            need(steps <= 400 && (writing || !number || list.size() < 40), MANY, node.number);
            if (Set.of(0, 1, 3, 6, 7, 8).contains(node.kind)) {
                close(node.number);
            }
            if (number) {
                number(node);
            } else if (node.kind <= 6 && node.kind != 3) {
                opened(node);
            } else {
                plain(node);
            }
        }
    }

    private void close(int item) throws Ended {
        while (position % 8 != 0) {
            if (writing) {
                bits.append('0');
            }
            need(bits.charAt(position) == '0', PADDING, item);
            position++;
        }
    }

    private void number(Node node) throws Ended {
        need(!writing || used < list.size(), SHORT, node.number);
        int known = writing ? list.get(used) : 0;
        int result = node.kind == 0 ? fixed(node, known) : node.kind == 1 ? grouped(node, known) : some(node, known);
        variables[node.b % 8] = result;
        if (writing) {
            used++;
        } else {
            list.add(result);
        }
    }

    private int fixed(Node node, int known) throws Ended {
        boolean lowFirst = node.b / 8 % 2 == 1;
        boolean signed = node.b / 16 == 1;
        long size = 1L << 8 * node.a;
        long least = signed ? -size / 2 : 0;
        need(node.a == 4 || !writing || known >= least && known < least + size, RANGE, node.number);
        long pattern = known & size - 1;
        String text = move(lowFirst ? turned(digits(pattern, 8 * node.a)) : digits(pattern, 8 * node.a), node.number);
        long got = Long.parseLong(lowFirst ? turned(text) : text, 2);
        return (int) (signed && got >= size / 2 ? got - size : got);
    }

    private int grouped(Node node, int known) throws Ended {
        if (writing) {
            long left = known & 0xffffffffL;
            String text = "";
            while (left > 127) {
                text += "1" + digits(left % 128, 7);
                left /= 128;
            }
            move(text + digits(left, 8), node.number);
            return known;
        }
        long sum = 0;
        long weight = 1;
        for (int i = 1;; i++) {
            int taken = Integer.parseInt(move("", 8, node.number), 2);
            need(i < 5 || taken <= 15, PADDING, node.number);
            sum += taken % 128 * weight;
            weight *= 128;
            if (taken < 128) {
                need(i == 1 || taken > 0, PADDING, node.number);
                return (int) sum;
            }
        }
    }

    private int some(Node node, int known) throws Ended {
        need(!writing || known >= 0 && known < 1 << node.a, RANGE, node.number);
        return Integer.parseInt(move(digits(known & 65535, node.a), node.number), 2);
    }

    private void opened(Node node) throws Ended {
        int v = variables[node.b];
        if (node.kind == 4) {
            need(v >= 0 && v <= 32, RANGE, node.number);
            for (int round = 0; round < v; round++) {
                walk(node.first);
            }
        } else if (node.kind == 5) {
            walk(v == node.a ? node.first : node.second);
        } else {
            need(v >= 0, RANGE, node.number);
            need(v <= (limit - position) / 8, SHORT, node.number);
            int outer = limit;
            limit = position + 8 * v;
            walk(node.first);
            at = reached();
            close(node.end);
            need(position == limit, LEFT, node.end);
            limit = outer;
        }
    }

    private void plain(Node node) throws Ended {
        if (node.kind == 3 || node.kind == 7) {
            int sum = node.a;
            for (int i = 0; i < position && node.kind == 7; i += 8) {
                sum += Integer.parseInt(bits.substring(i, i + 8), 2);
            }
            String text = digits(Math.floorMod(sum, 256), 8);
            need(move(text, node.number).equals(text), MISMATCH, node.number);
        } else if (node.kind == 8) {
            String text = digits(0, Math.floorMod(-position, 8 * node.a));
            need(move(text, node.number).equals(text), PADDING, node.number);
        } else if (node.kind == 9) {
            need(variables[node.b] >= 0 && variables[node.b] <= node.a, RANGE, node.number);
        } else {
            variables[node.b] = node.kind == 10 ? node.a : variables[node.b] + node.a;
        }
    }

    /** Moves on by the text: writes it, or answers what the input has in its place. */
    private String move(String text, int item) throws Ended {
        return move(text, text.length(), item);
    }

    private String move(String text, int length, int item) throws Ended {
        need(position + length <= limit, SHORT, item);
        if (writing) {
            bits.append(text);
        }
        position += length;
        return bits.substring(position - length, position);
    }

    private static void need(boolean holds, int answer, int item) throws Ended {
        if (!holds) {
            throw new Ended(answer, item);
        }
    }

    private static String digits(long number, int length) {
        String text = "";
        for (int i = 0; i < length; i++) {
            text = (number >> i & 1) + text;
        }
        return text;
    }

    private static String turned(String text) {
        String result = "";
        for (int i = 0; i < text.length(); i += 8) {
            result = text.substring(i, i + 8) + result;
        }
        return result;
    }

    int place() {
        return place;
    }

    int at() {
        return at;
    }

    int values() {
        return list.size();
    }

    int valueAt(int k) {
        return k >= 0 && k < list.size() ? list.get(k) : 0;
    }

    int bytes() {
        return output.length() / 8;
    }

    int byteAt(int k) {
        return k >= 0 && k < bytes() ? Integer.parseInt(output.substring(8 * k, 8 * k + 8), 2) : -1;
    }

    int variable(int v) {
        return v >= 0 && v < 8 ? variables[v] : 0;
    }
}
