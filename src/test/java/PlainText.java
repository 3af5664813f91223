import java.util.ArrayList;
import java.util.List;
import java.util.TreeSet;

/** A TEXT once more, read in another way: all TOKENS first, then a tree that is asked for each PLACE. */
final class PlainText {
    /** A FAULT, where it is. */
    static final class Fault extends RuntimeException {
        private static final long serialVersionUID = 1;
        final int kind;
        final int at;

        Fault(int kind, int at) {
            this.kind = kind;
            this.at = at;
        }
    }

    static final class Net {
        int kind;
        int first;
        int second;
        long from = 1;
        long to = 1_000_000_000_000L;

        boolean catches(long n) {
            if (n < from || n > to) {
                return false;
            }
            switch (kind) {
                case 0: return n % first == second;
                case 1: return n % (1L << first) == 0 && (n >> first) % 2 == 1;
                case 2: return ("0000" + n).endsWith(String.format("%0" + first + "d", second));
                case 3: return n % 7 == first;
                default: return n % first == 0;
            }
        }

        long mesh() {
            return new long[] {first, 2L << first, (long) Math.pow(10, first), 7, first}[kind];
        }

        long rest() {
            return new long[] {second, 1L << first, second, first, 0}[kind];
        }
    }

    private static final class Token {
        char kind;
        String bytes;
        int at;

        Token(char kind, String bytes, int at) {
            this.kind = kind;
            this.bytes = bytes;
            this.at = at;
        }
    }

    /** What is asked of a tree: a PLACE, and all that is known of the POND. */
    private static final class Asked {
        int place;
        int places;
        TreeSet<Integer> taken;
        int year;

        int in(int other) {
            return taken.contains(Math.floorMod(other, places)) ? 1 : 0;
        }

        int sums() {
            int many = 0;
            for (int a : taken) {
                for (int b : taken) {
                    many += a < b && (a + b) % places == place ? 1 : 0;
                }
            }
            return many;
        }
    }

    private static final class Tree {
        String what;
        Tree left;
        Tree right;

        Tree(String what, Tree left, Tree right) {
            this.what = what;
            this.left = left;
            this.right = right;
        }

        int value(Asked q) {
            int a = left == null ? 0 : left.value(q);
            int b = right == null ? 0 : right.value(q);
            switch (what) {
                case "or": return a != 0 | b != 0 ? 1 : 0;
                case "and": return a != 0 & b != 0 ? 1 : 0;
                case "not": return a != 0 ? 0 : 1;
                case "<": return a < b ? 1 : 0;
                case "=": return a == b ? 1 : 0;
                case "+": return (int) ((long) a + b);
                case "-": return (int) ((long) a - b);
                case "*": return (int) ((long) a * b);
                case "/": return b == 0 ? 0 : (int) ((long) a / b);
                case "place": return q.place;
                case "in": return q.in(q.place);
                case "before": return q.in(q.place - 1);
                case "after": return q.in(q.place + 1);
                case "sums": return q.sums();
                case "all": return q.taken.size();
                case "year": return q.year;
                default: return Integer.parseInt(what);
            }
        }
    }

    private static final List<String> KINDS = List.of("mesh", "twos", "ending", "week", "salted");
    private static final List<String> VALUES = List.of("place", "in", "before", "after", "sums", "all", "year");
    private static final String[] LEVELS = {"or", "and", "<=", "+-", "*/"};

    final List<Net> nets = new ArrayList<>();
    final TreeSet<Integer> pond = new TreeSet<>();
    int places = 30;
    private Tree rule;
    private boolean placesTold;
    private boolean pondTold;
    private final List<Token> tokens = new ArrayList<>();
    private int i;

    TreeSet<Integer> spawn(TreeSet<Integer> taken, int year) {
        if (rule == null) {
            return taken;
        }
        Asked q = new Asked();
        q.places = places;
        q.taken = taken;
        q.year = year;
        TreeSet<Integer> grown = new TreeSet<>();
        for (q.place = 0; q.place < places; q.place++) {
            if (rule.value(q) != 0) {
                grown.add(q.place);
            }
        }
        return grown;
    }

    void read(String text) {
        java.util.regex.Matcher m = java.util.regex.Pattern.compile("(?s)[ \n]*(?:([a-z]+)|([0-9]+)|([-;()+*/<=])|(.))").matcher(text);
        while (m.lookingAt()) {
            for (int group = 1; group <= 4; group++) {
                if (m.group(group) != null) {
                    tokens.add(new Token("wnsx".charAt(group - 1), m.group(group), m.start(group)));
                }
            }
            m.region(m.end(), text.length());
        }
        // A blank that stands at the very end is taken for a sign of its own by the last group.
        if (!tokens.isEmpty() && " \n".contains(tokens.get(tokens.size() - 1).bytes)) {
            tokens.remove(tokens.size() - 1);
        }
        tokens.add(new Token('e', "", text.length()));
        while (now().kind != 'e') {
            line();
            if (!is(";")) {
                throw fault(1);
            }
            i++;
        }
    }

    private Token now() {
        return tokens.get(i);
    }

    private boolean is(String bytes) {
        return now().kind != 'e' && now().bytes.equals(bytes);
    }

    private Fault fault(int kind) {
        return new Fault(kind, now().at);
    }

    private int number(int low, int high) {
        if (now().kind != 'n') {
            throw fault(1);
        }
        if (now().bytes.length() > 4 || Integer.parseInt(now().bytes) < low || Integer.parseInt(now().bytes) > high) {
            throw fault(2);
        }
        return Integer.parseInt(tokens.get(i++).bytes);
    }

    private void line() {
        if (KINDS.contains(now().bytes)) {
            net();
        } else if (is("places")) {
            if (placesTold) {
                throw fault(5);
            }
            if (pondTold) {
                throw fault(6);
            }
            i++;
            placesTold = true;
            places = number(2, 60);
        } else if (is("pond")) {
            i++;
            pondTold = true;
            do {
                int at = i;
                if (!pond.add(number(0, places - 1))) {
                    i = at;
                    throw fault(4);
                }
            } while (now().kind == 'n');
        } else if (is("spawns")) {
            if (rule != null) {
                throw fault(5);
            }
            i++;
            rule = expr(0);
        } else {
            throw fault(1);
        }
    }

    private void net() {
        if (nets.size() == 8) {
            throw fault(2);
        }
        Net net = new Net();
        net.kind = KINDS.indexOf(tokens.get(i++).bytes);
        int[] most = {999, 20, 4, 6, 999};
        int[] least = {2, 0, 1, 0, 2};
        net.first = number(least[net.kind], most[net.kind]);
        if (net.kind == 0) {
            net.second = number(0, net.first - 1);
        } else if (net.kind == 2) {
            net.second = number(0, (int) Math.pow(10, net.first) - 1);
        }
        if (is("from")) {
            i++;
            net.from = number(1, 9999);
            if (!is("to")) {
                throw fault(1);
            }
            i++;
            net.to = number((int) net.from, 9999);
        }
        nets.add(net);
    }

    private Tree expr(int within) {
        boolean begins = now().kind == 'n' || now().kind == 'w' || is("(");
        if (within >= 6 && begins) {
            throw fault(2);
        }
        return level(0, within);
    }

    private Tree level(int level, int within) {
        if (level == 5) {
            return part(within);
        }
        if (level == 2) {
            return not(within);
        }
        return chain(level, within);
    }

    private Tree chain(int level, int within) {
        Tree left = level(level + 1, within);
        boolean tested = false;
        while (joins(level) && !tested) {
            String sign = tokens.get(i++).bytes;
            left = new Tree(sign, left, level(level + 1, within));
            tested = level == 2;
        }
        return left;
    }

    private boolean joins(int level) {
        return level < 2 ? is(LEVELS[level]) : now().kind == 's' && LEVELS[level].contains(now().bytes);
    }

    private Tree not(int within) {
        int first = i;
        while (is("not")) {
            if (i - first == 6) {
                throw fault(2);
            }
            i++;
        }
        int nots = i - first;
        Tree tree = chain(2, within);
        for (int k = 0; k < nots; k++) {
            tree = new Tree("not", tree, null);
        }
        return tree;
    }

    private Tree part(int within) {
        if (is("(")) {
            i++;
            Tree tree = expr(within + 1);
            if (!is(")")) {
                throw fault(1);
            }
            i++;
            return tree;
        }
        if (now().kind == 'w' && !VALUES.contains(now().bytes)) {
            throw fault(3);
        }
        if (now().kind == 'n') {
            return new Tree(Integer.toString(number(0, 9999)), null, null);
        }
        if (now().kind != 'w') {
            throw fault(1);
        }
        return new Tree(tokens.get(i++).bytes, null, null);
    }
}
