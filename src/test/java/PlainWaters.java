import java.util.ArrayDeque;
import java.util.ArrayList;
import java.util.Arrays;
import java.util.HashMap;
import java.util.List;
import java.util.Map;
import java.util.NoSuchElementException;
import java.util.TreeSet;

/** The document once more, in its slowest form: all is listed, nothing is counted without listing. For small waters. */
final class PlainWaters {
    static final int NONE = -1;
    private static final long MOST = 1_000_000_000_000L;

    private StringBuilder tape = new StringBuilder();
    private PlainText text = new PlainText();
    private int fault = NONE;
    private Scene now = new Scene();
    private Scene image;

    /** What an image keeps; copied whole. */
    private static final class Scene {
        long low = 1;
        long high = 1000;
        TreeSet<Integer> lowered = new TreeSet<>();
        TreeSet<Integer> taken = new TreeSet<>();
        int years;
        ArrayDeque<Scene> acts = new ArrayDeque<>();
        List<Long> wished = new ArrayList<>();
        List<Long> unwished = new ArrayList<>();
        List<Long> seen = new ArrayList<>();
        int[] status = new int[3];

        Scene copy() {
            Scene c = new Scene();
            c.low = low;
            c.high = high;
            c.lowered = new TreeSet<>(lowered);
            c.taken = new TreeSet<>(taken);
            c.years = years;
            c.acts = new ArrayDeque<>(acts);
            c.wished = new ArrayList<>(wished);
            c.unwished = new ArrayList<>(unwished);
            c.seen = new ArrayList<>(seen);
            c.status = status.clone();
            return c;
        }
    }

    static PlainWaters of(String sea) {
        PlainWaters x = new PlainWaters();
        x.tape.append(sea);
        x.sea(sea.length());
        return x;
    }

    int feed(int... numbers) {
        if (tape.length() + 20 > 500) {
            return NONE;
        }
        for (int number : numbers) {
            for (int k = 3; k >= 0; k--) {
                tape.append((char) (number >> 8 * k & 255));
            }
        }
        return tape.length();
    }

    int sea(int n) {
        if (n < 0 || n > tape.length()) {
            throw new IllegalArgumentException();
        }
        PlainText told = new PlainText();
        String bytes = tape.substring(0, n);
        tape = new StringBuilder();
        try {
            told.read(bytes);
        } catch (PlainText.Fault f) {
            fault = f.at;
            now.status[0]++;
            return f.kind;
        }
        fault = NONE;
        text = told;
        int[] status = now.status;
        now = new Scene();
        now.status = status;
        now.taken = new TreeSet<>(told.pond);
        image = null;
        return 0;
    }

    int fault() {
        return fault;
    }

    long count(int what) {
        long[] all = {now.low, now.high, text.nets.size(), bits(now.lowered), text.places, now.taken.size(), now.years,
            now.acts.size(), now.wished.size(), now.unwished.size(), now.seen.size(), tape.length(),
            now.status[0], now.status[1], now.status[2]};
        if (what < 0 || what >= all.length) {
            throw new NoSuchElementException();
        }
        return all[what];
    }

    private static int bits(Iterable<Integer> places) {
        int all = 0;
        for (int place : places) {
            all += (int) Math.pow(2, place);
        }
        return all;
    }

    private PlainText.Net netAt(int net) {
        if (net < 0 || net >= text.nets.size()) {
            throw new NoSuchElementException();
        }
        return text.nets.get(net);
    }

    long net(int net, int what) {
        PlainText.Net n = netAt(net);
        long[] all = {n.kind, n.mesh(), n.rest(), n.from, n.to};
        if (what < 0 || what >= all.length) {
            throw new NoSuchElementException();
        }
        return all[what];
    }

    boolean pond(int place) {
        if (place < 0 || place >= text.places) {
            throw new NoSuchElementException();
        }
        return now.taken.contains(place);
    }

    private void act() {
        Scene was = now.copy();
        was.acts.clear();
        now.acts.addLast(was);
        if (now.acts.size() > 40) {
            now.acts.removeFirst();
        }
    }

    boolean waters(long low, long high) {
        if (low < 1 || high > MOST || low > high) {
            now.status[1]++;
            return false;
        }
        act();
        now.low = low;
        now.high = high;
        return true;
    }

    boolean lower(int net, boolean lowered) {
        netAt(net);
        if (now.lowered.contains(net) == lowered) {
            now.status[1]++;
            return false;
        }
        act();
        if (lowered) {
            now.lowered.add(net);
        } else {
            now.lowered.remove(net);
        }
        return true;
    }

    int years(int many) {
        if (many < 1 || many > 200) {
            now.status[1]++;
            return NONE;
        }
        act();
        for (int i = 0; i < many; i++) {
            now.taken = text.spawn(now.taken, now.years);
            now.years++;
        }
        return now.taken.size();
    }

    int undo() {
        if (now.acts.isEmpty()) {
            return NONE;
        }
        Scene was = now.acts.removeLast().copy();
        now.low = was.low;
        now.high = was.high;
        now.lowered = was.lowered;
        now.taken = was.taken;
        now.years = was.years;
        return now.acts.size();
    }

    private void number(long number) {
        if (number < 1 || number > MOST) {
            throw new IllegalArgumentException();
        }
    }

    private List<Integer> netsThatCatch(long number) {
        List<Integer> all = new ArrayList<>();
        for (int i = 0; i < text.nets.size(); i++) {
            if (text.nets.get(i).catches(number)) {
                all.add(i);
            }
        }
        return all;
    }

    int nets(long number) {
        number(number);
        return bits(netsThatCatch(number));
    }

    private void set(int set) {
        if (set < 0 || set >= Math.pow(2, text.nets.size())) {
            throw new IllegalArgumentException();
        }
    }

    /** How many of a SET's NETS catch a number. */
    private int by(int set, long number) {
        int many = 0;
        for (int net : netsThatCatch(number)) {
            many += set >> net & 1;
        }
        return many;
    }

    private List<Long> caughtByAll(int set) {
        List<Long> all = new ArrayList<>();
        for (long n = now.low; n <= now.high; n++) {
            if (by(set, n) == Integer.bitCount(set)) {
                all.add(n);
            }
        }
        return all;
    }

    long all(int set) {
        set(set);
        return caughtByAll(set).size();
    }

    private long caughtBySome(int set) {
        long many = 0;
        for (long n = now.low; n <= now.high; n++) {
            many += by(set, n) > 0 ? 1 : 0;
        }
        return many;
    }

    long some(int set) {
        set(set);
        return caughtBySome(set);
    }

    long just(int set, int k) {
        set(set);
        if (k < 0 || k > 8) {
            throw new IllegalArgumentException();
        }
        long many = 0;
        for (long n = now.low; n <= now.high; n++) {
            many += by(set, n) == k ? 1 : 0;
        }
        return many;
    }

    long haul() {
        return caughtBySome(bits(now.lowered));
    }

    long next(int set, long from) {
        set(set);
        for (long n : caughtByAll(set)) {
            if (n >= from) {
                return n;
            }
        }
        return NONE;
    }

    long place(int set, long i) {
        set(set);
        if (i < 0) {
            throw new IllegalArgumentException();
        }
        List<Long> all = caughtByAll(set);
        return i < all.size() ? all.get((int) i) : NONE;
    }

    int most(int k) {
        if (k < 0 || k > text.nets.size()) {
            throw new IllegalArgumentException();
        }
        int[] catchers = new int[(int) (now.high - now.low + 1)];
        for (int i = 0; i < catchers.length; i++) {
            catchers[i] = bits(netsThatCatch(now.low + i));
        }
        int best = NONE;
        int most = NONE;
        for (int set = 0; set < 1 << text.nets.size(); set++) {
            int many = 0;
            for (int catcher : catchers) {
                many += (catcher & set) != 0 ? 1 : 0;
            }
            if (Integer.bitCount(set) == k && many > most) {
                best = set;
                most = many;
            }
        }
        return best;
    }

    int wish(long number, boolean wished) {
        int many = now.wished.size() + now.unwished.size();
        if (number < 1 || number > MOST || many == 12 || now.wished.contains(number) || now.unwished.contains(number)) {
            now.status[2]++;
            return NONE;
        }
        (wished ? now.wished : now.unwished).add(number);
        return many + 1;
    }

    void forget() {
        now.wished.clear();
        now.unwished.clear();
        now.seen.clear();
    }

    int fewest() {
        for (int size = 0; size <= 8; size++) {
            for (int set = 0; set < 1 << text.nets.size(); set++) {
                boolean right = Integer.bitCount(set) == size;
                for (long n : now.wished) {
                    right &= by(set, n) > 0;
                }
                for (long n : now.unwished) {
                    right &= by(set, n) == 0;
                }
                if (right) {
                    return set;
                }
            }
        }
        return NONE;
    }

    int mesh(int most) {
        if (most < 2 || most > 999) {
            throw new IllegalArgumentException();
        }
        for (int mesh = 2; mesh <= most; mesh++) {
            for (int rest = 0; rest < mesh; rest++) {
                boolean right = true;
                for (long n : now.wished) {
                    right &= n % mesh == rest;
                }
                for (long n : now.unwished) {
                    right &= n % mesh != rest;
                }
                if (right) {
                    return 1000 * mesh + rest;
                }
            }
        }
        return NONE;
    }

    int find(int n, int what) {
        if (what != 0 && what != 1) {
            throw new NoSuchElementException();
        }
        if (n < 1 || n > 60) {
            throw new IllegalArgumentException();
        }
        List<Integer> all = new ArrayList<>();
        for (int i = 1; i <= n; i++) {
            all.add(i);
        }
        Map<List<Integer>, Integer> known = new HashMap<>();
        int fewest = hauls(all, known);
        if (what == 0 || fewest == 0 || fewest == NONE) {
            return what == 0 ? fewest : NONE;
        }
        for (int net = 0; net < text.nets.size(); net++) {
            if (haulsFrom(net, all, known) == fewest) {
                return net;
            }
        }
        throw new AssertionError();
    }

    private int haulsFrom(int net, List<Integer> among, Map<List<Integer>, Integer> known) {
        List<Integer> in = new ArrayList<>();
        List<Integer> out = new ArrayList<>();
        for (int number : among) {
            (text.nets.get(net).catches(number) ? in : out).add(number);
        }
        if (in.isEmpty() || out.isEmpty()) {
            return NONE;
        }
        int a = hauls(in, known);
        int b = hauls(out, known);
        return a == NONE || b == NONE ? NONE : 1 + Math.max(a, b);
    }

    private int hauls(List<Integer> among, Map<List<Integer>, Integer> known) {
        if (among.size() == 1) {
            return 0;
        }
        Integer old = known.get(among);
        if (old != null) {
            return old;
        }
        int best = NONE;
        for (int net = 0; net < text.nets.size(); net++) {
            int many = haulsFrom(net, among, known);
            if (many != NONE && (best == NONE || many < best)) {
                best = many;
            }
        }
        known.put(among, best);
        return best;
    }

    int round(int what) {
        if (what != 0 && what != 1) {
            throw new NoSuchElementException();
        }
        List<TreeSet<Integer>> all = new ArrayList<>();
        all.add(now.taken);
        for (int i = 1; i <= 300; i++) {
            all.add(text.spawn(all.get(i - 1), now.years));
        }
        for (int i = 0; i <= 300; i++) {
            for (int j = i + 1; j <= 300; j++) {
                if (all.get(i).equals(all.get(j))) {
                    return what == 0 ? i : j - i;
                }
            }
        }
        return NONE;
    }

    int ends() {
        TreeSet<Integer> taken = now.taken;
        for (int i = 0; i <= 300; i++) {
            if (taken.isEmpty()) {
                return i;
            }
            taken = text.spawn(taken, now.years + i);
        }
        return NONE;
    }

    int see(long number) {
        if (number < 1 || number > MOST || now.seen.size() == 12) {
            now.status[2]++;
            return NONE;
        }
        now.seen.add(number);
        return now.seen.size();
    }

    int fits(int what) {
        if (what < 0 || what > 2) {
            throw new NoSuchElementException();
        }
        int many = 0;
        int least = NONE;
        for (int set = 0; set < 1 << text.nets.size(); set++) {
            boolean right = true;
            for (long n : now.seen) {
                right &= by(set, n) > 0;
            }
            for (int net = 0; net < text.nets.size(); net++) {
                boolean busy = (set >> net & 1) == 0;
                for (long n : now.seen) {
                    busy |= text.nets.get(net).catches(n);
                }
                right &= busy;
            }
            if (right) {
                least = many == 0 ? set : least;
                many++;
            }
        }
        int poached = 0;
        for (long n : now.seen) {
            poached += netsThatCatch(n).isEmpty() ? 1 : 0;
        }
        return what == 0 ? many : what == 1 ? least : poached;
    }

    private long gets(int net, int other) {
        long own = 0;
        long both = 0;
        for (long n = now.low; n <= now.high; n++) {
            boolean mine = text.nets.get(net).catches(n);
            boolean theirs = text.nets.get(other).catches(n);
            own += mine && !theirs ? 1 : 0;
            both += mine && theirs ? 1 : 0;
        }
        return own + both / 2;
    }

    int fleets(int what) {
        if (what != 0 && what != 1) {
            throw new NoSuchElementException();
        }
        int nets = text.nets.size();
        long[][] gets = new long[nets][nets];
        for (int a = 0; a < nets; a++) {
            for (int b = 0; b < nets; b++) {
                gets[a][b] = gets(a, b);
            }
        }
        List<Integer> rest = new ArrayList<>();
        for (int a = 0; a < nets; a++) {
            for (int b = 0; b < nets; b++) {
                boolean rests = true;
                for (int c = 0; c < nets; c++) {
                    rests &= gets[c][b] <= gets[a][b] && gets[c][a] <= gets[b][a];
                }
                if (rests) {
                    rest.add(10 * a + b);
                }
            }
        }
        return what == 0 ? rest.size() : rest.isEmpty() ? NONE : rest.get(0);
    }

    int days(int seed, int days, int net) {
        if (net != NONE) {
            netAt(net);
        }
        if (days < 0 || days > 300) {
            throw new IllegalArgumentException();
        }
        int many = 0;
        int s = seed;
        for (int day = 0; day < days; day++) {
            s = s * 1103515245 + 12345;
            long span = Math.min(32768, now.high - now.low + 1);
            long drawn = now.low + (s >> 16 & 0x7fff) % span;
            many += net == NONE ? netsThatCatch(drawn).isEmpty() ? 1 : 0 : text.nets.get(net).catches(drawn) ? 1 : 0;
        }
        return many;
    }

    long split(int k, int i) {
        if (k < 1 || k > 9) {
            throw new IllegalArgumentException();
        }
        if (i < 0 || i >= k) {
            throw new NoSuchElementException();
        }
        long[] piles = new long[k];
        for (long n = now.low; n <= now.high; n++) {
            piles[(Long.toString(n).charAt(0) - '1') % k]++;
        }
        return piles[i];
    }

    void image() {
        image = now.copy();
    }

    boolean restore() {
        if (image == null) {
            return false;
        }
        now = image.copy();
        return true;
    }

    // What follows asks nothing of the object.

    static List<Integer> primesOf(int number) {
        List<Integer> all = new ArrayList<>();
        int left = number;
        for (int p = 2; (long) p * p <= left; p++) {
            while (left % p == 0) {
                all.add(p);
                left /= p;
            }
        }
        if (left > 1) {
            all.add(left);
        }
        return all;
    }

    static int parts(int number, int i, boolean often) {
        if (number < 1 || number > 1_000_000_000) {
            throw new IllegalArgumentException();
        }
        List<Integer> all = primesOf(number);
        Integer[] unlike = new TreeSet<>(all).toArray(new Integer[0]);
        if (i == NONE) {
            return unlike.length;
        }
        if (i < 0 || i >= unlike.length) {
            throw new NoSuchElementException();
        }
        return often ? (int) all.stream().filter(p -> p.equals(unlike[i])).count() : unlike[i];
    }

    /** For small numbers: by all that divide it. */
    static long divided(int number, int what) {
        if (number < 1 || number > 1_000_000_000) {
            throw new IllegalArgumentException();
        }
        long many = 0;
        long sum = 0;
        for (int d = 1; d <= number; d++) {
            many += number % d == 0 ? 1 : 0;
            sum += number % d == 0 && d < number ? d : 0;
        }
        int halves = Integer.numberOfTrailingZeros(number);
        long[] all = {many, sum, sum < number ? 0 : sum > number ? 2 : 1, halves, number >> halves};
        if (what < 0 || what >= all.length) {
            throw new NoSuchElementException();
        }
        return all[what];
    }

    static int primes(int a, int b) {
        if (a < 1 || a > 1_000_000_000 || b < a || b > 1_000_000_000 || b - a > 2000) {
            throw new IllegalArgumentException();
        }
        int many = 0;
        for (int n = a; n <= b; n++) {
            many += isPrime(n) ? 1 : 0;
        }
        return many;
    }

    static boolean isPrime(int n) {
        return java.math.BigInteger.valueOf(n).isProbablePrime(40);
    }

    static int prime(int from) {
        if (from < 1 || from > 1_000_000_000) {
            throw new IllegalArgumentException();
        }
        for (int n = from; n <= from + 2000; n++) {
            if (isPrime(n)) {
                return n;
            }
        }
        return NONE;
    }

    static int shoal(int prime, int n) {
        if (n < 2 || n > 100000) {
            throw new IllegalArgumentException();
        }
        int[] least = new int[n + 1];
        for (int p = 2; p <= n; p++) {
            for (int k = p; k <= n; k += p) {
                least[k] = least[k] == 0 ? p : least[k];
            }
        }
        int many = 0;
        for (int k = 2; k <= n; k++) {
            many += least[k] == prime ? 1 : 0;
        }
        return many;
    }

    static long sums(long n, int m, int rest) {
        if (n < 0 || n > 1_000_000_000_000_000L || m < 1 || m > 50 || rest < 0 || rest >= m) {
            throw new IllegalArgumentException();
        }
        long many = 0;
        for (long k = 1; k <= n; k++) {
            many += Long.toString(k).chars().map(c -> c - '0').sum() % m == rest ? 1 : 0;
        }
        return many;
    }

    static long figures(long n, int figure, boolean anywhere) {
        if (figure < 0 || figure > 9) {
            throw new NoSuchElementException();
        }
        if (n < 0 || n > 1_000_000_000_000_000L) {
            throw new IllegalArgumentException();
        }
        long many = 0;
        for (long k = 1; k <= n; k++) {
            int at = Long.toString(k).indexOf('0' + figure);
            many += at == 0 || anywhere && at > 0 ? 1 : 0;
        }
        return many;
    }
}
