import java.util.ArrayList;
import java.util.List;
import java.util.Random;

/** Texts by chance (always the same ones): most are a SEA, some have been spoilt. */
final class TextMaker {
    private final Random chance;

    TextMaker(long seed) {
        chance = new Random(seed);
    }

    private int up(int n) {
        return chance.nextInt(n);
    }

    private String one(String... some) {
        return some[up(some.length)];
    }

    /** A text of at most 480 bytes. */
    String text() {
        StringBuilder all = new StringBuilder();
        int lines = up(12);
        boolean placesTold = false;
        boolean spawnsTold = false;
        int places = 30;
        List<Integer> left = new ArrayList<>();
        if (up(2) == 0) {
            places = 2 + up(up(3) == 0 ? 59 : 9);
            all.append("places ").append(places).append(';');
            placesTold = true;
        }
        for (int p = 0; p < places; p++) {
            left.add(p);
        }
        int nets = 0;
        for (int i = 0; i < lines; i++) {
            String line;
            int what = up(10);
            if (what < 6 && nets < 8) {
                line = net();
                nets++;
            } else if (what < 8 && !left.isEmpty()) {
                line = "pond";
                for (int k = up(5); k >= 0 && !left.isEmpty(); k--) {
                    line += " " + left.remove(up(left.size()));
                }
            } else if (!spawnsTold) {
                line = "spawns " + expr(2);
                spawnsTold = true;
            } else {
                continue;
            }
            if (all.length() + line.length() < 470) {
                all.append(blank()).append(line).append(blank()).append(";");
            }
        }
        String text = all.toString();
        return up(3) == 0 ? spoilt(text) : text;
    }

    private String blank() {
        return one("", "", "", " ", "\n", "  ");
    }

    private String net() {
        String net;
        switch (up(6)) {
            case 0: net = "twos " + up(up(3) == 0 ? 21 : 4); break;
            case 1: {
                int p = 1 + up(up(2) == 0 ? 4 : 1);
                net = "ending " + p + " " + up((int) Math.pow(10, p));
                break;
            }
            case 2: net = "week " + up(7); break;
            case 3: net = "salted " + (2 + up(up(3) == 0 ? 998 : 10)); break;
            default: {
                int m = 2 + up(up(4) == 0 ? 998 : 11);
                net = "mesh " + m + " " + up(m);
                break;
            }
        }
        if (up(4) == 0) {
            int from = 1 + up(up(2) == 0 ? 9999 : 80);
            net += " from " + from + " to " + Math.min(9999, from + up(up(2) == 0 ? 10000 : 60));
        }
        return net;
    }

    private String expr(int depth) {
        String all = and(depth);
        while (up(5) == 0) {
            all += " or " + and(depth);
        }
        return all;
    }

    private String and(int depth) {
        String all = not(depth);
        while (up(5) == 0) {
            all += " and " + not(depth);
        }
        return all;
    }

    private String not(int depth) {
        String nots = "";
        for (int i = 0; i < 6 && up(5) == 0; i++) {
            nots += "not ";
        }
        return nots + sum(depth) + (up(2) == 0 ? blank() + one("<", "=") + blank() + sum(depth) : "");
    }

    private String sum(int depth) {
        String all = product(depth);
        while (up(4) == 0) {
            all += blank() + one("+", "-") + product(depth);
        }
        return all;
    }

    private String product(int depth) {
        String all = part(depth);
        while (up(4) == 0) {
            all += one("*", "/") + blank() + part(depth);
        }
        return all;
    }

    private String part(int depth) {
        if (depth > 0 && up(4) == 0) {
            return "(" + expr(depth - 1) + ")";
        }
        if (up(3) == 0) {
            return Integer.toString(up(up(3) == 0 ? 10000 : 6));
        }
        return one("place", "in", "before", "after", "sums", "all", "year", "in", "before", "after");
    }

    /** A text in which some bytes or words have been put, left out or changed. */
    String spoilt(String text) {
        StringBuilder all = new StringBuilder(text);
        for (int k = up(3); k >= 0; k--) {
            int at = up(all.length() + 1);
            switch (up(5)) {
                case 0:
                    if (at < all.length()) {
                        all.deleteCharAt(at);
                    }
                    break;
                case 1:
                    all.insert(at, one(";", "(", ")", "+", "<", "=", "*", "X", "é", "\t", "0", "00000", "9", "-", "/"));
                    break;
                case 2:
                    all.insert(at, one(" not ", " not not not not not not not ", " or ", " and ", " from ", " to ", " mesh 5 1;",
                        " pond 3;", " places 9;", " spawns in;", " ;", " in ", " week 9", " ((((((1)))))) ", " 12345 ", " pond 1 2 3"));
                    break;
                case 3:
                    all.setLength(at);
                    break;
                default:
                    int end = Math.min(all.length(), at + up(8));
                    String piece = all.substring(at, end);
                    all.insert(up(all.length() + 1), piece);
                    break;
            }
        }
        if (all.length() > 480) {
            all.setLength(480);
        }
        return all.toString();
    }

    /** A text of TOKENS in any order whatever. */
    String jumble() {
        StringBuilder all = new StringBuilder(one("spawns ", "", "mesh ", "pond ", "spawns ((", "spawns not "));
        for (int k = up(14); k >= 0; k--) {
            all.append(one("(", "(", ")", "1", "12345", " in ", " not ", " and ", " or ", "+", "-", "*", "/", "<", "=", ";",
                " foo ", " 7 ", " mesh ", " from ", " to ", " place", " year", "?"));
        }
        return all.toString();
    }
}
