import java.util.NoSuchElementException;

/** Fishing for numbers: waters, nets, wishes, parts of numbers, licences, a pond, fleets and days. */
public final class MeshWaters {
    /** There is none. */
    public static final int NONE = -1;

    private static final long NUMBER_MOST = 1000000000000L;
    private static final long LICENCE_MOST = 1000000000000000L;
    private static final int DIVIDED_MOST = 1000000000;
    private static final int SPAN_MOST = 2000;
    private static final int SHOAL_MOST = 100000;
    private static final int MODULUS_MOST = 50;
    private static final int MESH_MOST = 999;
    private static final int END_MOST = 9999;
    private static final int TAPE_MOST = 500;
    private static final int FED = 20;
    private static final int NETS_MOST = 8;
    private static final int SETS_MOST = 256;
    private static final int ACTS_MOST = 40;
    private static final int LIST_MOST = 12;
    private static final int PLACES_MOST = 60;
    private static final int PLACES_FIRST = 30;
    private static final int YEARS_MOST = 200;
    private static final int YEARS_AHEAD = 300;
    private static final int DAYS_MOST = 300;
    private static final int DRAW_MOST = 32768;
    private static final int FIND_MOST = 60;
    private static final int FIND_STATES = 6561;
    private static final int FAR = 99;

    private static final int REFUSED_TEXTS = 0;
    private static final int REFUSED_ACTS = 1;
    private static final int REFUSED_NUMBERS = 2;
    private static final int REFUSALS = 3;

    private static final int ACT_WATERS = 0;
    private static final int ACT_LOWER = 1;
    private static final int ACT_YEARS = 2;

    private static final int KIND_MESH = 0;
    private static final int KIND_TWOS = 1;
    private static final int KIND_ENDING = 2;
    private static final int KIND_WEEK = 3;
    private static final int KIND_SALTED = 4;
    private static final int LINE_PLACES = 5;
    private static final int LINE_POND = 6;
    private static final int LINE_SPAWNS = 7;

    private static final int TOKEN_END = 0;
    private static final int TOKEN_WORD = 1;
    private static final int TOKEN_NUMBER = 2;
    private static final int TOKEN_SIGN = 3;

    private static final int WRONG = 1;
    private static final int TOO_MUCH = 2;
    private static final int NO_VALUE = 3;
    private static final int TAKEN_ALREADY = 4;
    private static final int TOLD_ALREADY = 5;
    private static final int TOO_LATE = 6;

    private static final int DIGITS_MOST = 4;
    private static final int NOTS_MOST = 6;
    private static final int EXPRS_MOST = 6;
    // An EXPR leaves at most five values waiting (or, and, test, sum, product) for each of six within one another.
    private static final int ROWS = 32;

    private static final int PUT_NUMBER = 0;
    private static final int PUT_PLACE = 1;
    private static final int PUT_IN = 2;
    private static final int PUT_BEFORE = 3;
    private static final int PUT_AFTER = 4;
    private static final int PUT_SUMS = 5;
    private static final int PUT_ALL = 6;
    private static final int PUT_YEAR = 7;
    private static final int DO_NOT = 8;
    private static final int DO_OR = 9;
    private static final int DO_AND = 10;
    private static final int DO_LESS = 11;
    private static final int DO_SAME = 12;
    private static final int DO_ADD = 13;
    private static final int DO_SUBTRACT = 14;
    private static final int DO_MULTIPLY = 15;
    private static final int DO_DIVIDE = 16;

    private final Reader reader = new Reader();
    private final Sea sea = new Sea();
    private final Shares shares = new Shares();
    private final Scene scene = new Scene();
    private final Scene kept = new Scene();
    private final Pond pond = new Pond();
    private final Finder finder = new Finder();
    private final Parts parts = new Parts();
    private final Licences licences = new Licences();
    private final int[] catchers = new int[LIST_MOST];
    private final boolean[] struck = new boolean[SPAN_MOST + 1];
    private boolean imaged;

    public MeshWaters() {
        imaged = false;
    }

    public int feed(int a, int b, int c, int d, int e) {
        if (reader.length + FED > TAPE_MOST) {
            return NONE;
        }
        reader.take(a);
        reader.take(b);
        reader.take(c);
        reader.take(d);
        reader.take(e);
        return reader.length;
    }

    public int sea(int n) throws IllegalArgumentException {
        if (n < 0 || n > reader.length) {
            throw new IllegalArgumentException();
        }
        int found = reader.read(n);
        if (found != 0) {
            scene.refuse(REFUSED_TEXTS);
            return found;
        }
        sea.copy(reader.sea);
        shares.tie(sea);
        scene.begin(sea.taken);
        imaged = false;
        return 0;
    }

    public int fault() {
        return reader.faultAt;
    }

    public long count(int what) throws NoSuchElementException {
        switch (what) {
            case 0: return scene.low;
            case 1: return scene.high;
            case 2: return sea.nets;
            case 3: return scene.lowered;
            case 4: return sea.places;
            case 5: return Long.bitCount(scene.taken);
            case 6: return scene.years;
            case 7: return scene.acts;
            case 8: return scene.wishesThat(true);
            case 9: return scene.wishesThat(false);
            case 10: return scene.seen;
            case 11: return reader.length;
            case 12: return scene.refusals(REFUSED_TEXTS);
            case 13: return scene.refusals(REFUSED_ACTS);
            case 14: return scene.refusals(REFUSED_NUMBERS);
            default: throw new NoSuchElementException();
        }
    }

    public long net(int net, int what) throws NoSuchElementException {
        if (!sea.has(net) || what < 0 || what > 4) {
            throw new NoSuchElementException();
        }
        return sea.told(net, what);
    }

    public boolean pond(int place) throws NoSuchElementException {
        if (place < 0 || place >= sea.places) {
            throw new NoSuchElementException();
        }
        return bit(scene.taken, place) == 1;
    }

    public boolean waters(long low, long high) {
        if (!isNumber(low) || !isNumber(high) || low > high) {
            scene.refuse(REFUSED_ACTS);
            return false;
        }
        scene.keepAct(ACT_WATERS, scene.low, scene.high);
        scene.low = low;
        scene.high = high;
        return true;
    }

    public boolean lower(int net, boolean lowered) throws NoSuchElementException {
        if (!sea.has(net)) {
            throw new NoSuchElementException();
        }
        int one = 1 << net;
        if (((scene.lowered & one) != 0) == lowered) {
            scene.refuse(REFUSED_ACTS);
            return false;
        }
        scene.keepAct(ACT_LOWER, scene.lowered, 0);
        scene.lowered = scene.lowered ^ one;
        return true;
    }

    public int years(int many) {
        if (many < 1 || many > YEARS_MOST) {
            scene.refuse(REFUSED_ACTS);
            return NONE;
        }
        scene.keepAct(ACT_YEARS, scene.taken, scene.years);
        for (int i = 0; i < many; i++) {
            scene.taken = pond.behind(sea, scene.taken, scene.years);
            scene.years = scene.years + 1;
        }
        return Long.bitCount(scene.taken);
    }

    public int undo() {
        return scene.takeBack();
    }

    public int nets(long number) throws IllegalArgumentException {
        if (!isNumber(number)) {
            throw new IllegalArgumentException();
        }
        return sea.catchers(number);
    }

    public long all(int set) throws IllegalArgumentException {
        if (!shares.has(set)) {
            throw new IllegalArgumentException();
        }
        return shares.amount(set, scene.low, scene.high);
    }

    public long some(int set) throws IllegalArgumentException {
        if (!shares.has(set)) {
            throw new IllegalArgumentException();
        }
        shares.measure(scene.low, scene.high);
        return shares.bySome(set);
    }

    public long just(int set, int k) throws IllegalArgumentException {
        if (!shares.has(set) || k < 0 || k > NETS_MOST) {
            throw new IllegalArgumentException();
        }
        shares.measure(scene.low, scene.high);
        return shares.byJust(set, k);
    }

    public long haul() {
        shares.measure(scene.low, scene.high);
        return shares.bySome(scene.lowered);
    }

    public long next(int set, long from) throws IllegalArgumentException {
        if (!shares.has(set)) {
            throw new IllegalArgumentException();
        }
        if (from > scene.high) {
            return NONE;
        }
        return shares.pick(set, Math.max(from, scene.low), scene.high, 0);
    }

    public long place(int set, long i) throws IllegalArgumentException {
        if (!shares.has(set) || i < 0) {
            throw new IllegalArgumentException();
        }
        return shares.pick(set, scene.low, scene.high, i);
    }

    public int most(int k) throws IllegalArgumentException {
        if (k < 0 || k > sea.nets) {
            throw new IllegalArgumentException();
        }
        shares.measure(scene.low, scene.high);
        int best = NONE;
        long caught = NONE;
        for (int set = 0; set < shares.sets; set++) {
            long now = Integer.bitCount(set) == k ? shares.bySome(set) : NONE;
            if (now > caught) {
                best = set;
                caught = now;
            }
        }
        return best;
    }

    public int wish(long number, boolean wished) {
        if (!isNumber(number) || !scene.addWish(number, wished)) {
            scene.refuse(REFUSED_NUMBERS);
            return NONE;
        }
        return scene.wishes;
    }

    public void forget() {
        scene.wishes = 0;
        scene.seen = 0;
    }

    public int fewest() {
        markCatchers(scene.wishNumbers, scene.wishes);
        int best = NONE;
        for (int set = 0; set < shares.sets; set++) {
            if ((best == NONE || Integer.bitCount(set) < Integer.bitCount(best)) && serves(set)) {
                best = set;
            }
        }
        return best;
    }

    public int mesh(int most) throws IllegalArgumentException {
        if (most < 2 || most > MESH_MOST) {
            throw new IllegalArgumentException();
        }
        for (int mesh = 2; mesh <= most; mesh++) {
            int rest = scene.restThatServes(mesh);
            if (rest != NONE) {
                return 1000 * mesh + rest;
            }
        }
        return NONE;
    }

    public int find(int n, int what) throws NoSuchElementException, IllegalArgumentException {
        if (what < 0 || what > 1) {
            throw new NoSuchElementException();
        }
        if (n < 1 || n > FIND_MOST) {
            throw new IllegalArgumentException();
        }
        finder.look(sea, n);
        return what == 0 ? finder.hauls : finder.first;
    }

    public int parts(int number, int i, boolean often) throws NoSuchElementException, IllegalArgumentException {
        if (!isDivided(number)) {
            throw new IllegalArgumentException();
        }
        parts.take(number);
        if (i == NONE) {
            return parts.many;
        }
        if (!parts.has(i)) {
            throw new NoSuchElementException();
        }
        return often ? parts.times(i) : parts.factor(i);
    }

    public long divided(int number, int what) throws NoSuchElementException, IllegalArgumentException {
        if (!isDivided(number)) {
            throw new IllegalArgumentException();
        }
        parts.take(number);
        long added = parts.addedUp() - number;
        switch (what) {
            case 0: return parts.dividers();
            case 1: return added;
            case 2: return added < number ? 0 : added == number ? 1 : 2;
            case 3: return parts.halvings();
            case 4: return number >> parts.halvings();
            default: throw new NoSuchElementException();
        }
    }

    public int primes(int a, int b) throws IllegalArgumentException {
        if (!isDivided(a) || !isDivided(b) || b < a || b > a + SPAN_MOST) {
            throw new IllegalArgumentException();
        }
        strike(a, b);
        int many = 0;
        for (int i = 0; i <= b - a && i < struck.length; i++) {
            if (!struck[i]) {
                many++;
            }
        }
        return many;
    }

    public int prime(int from) throws IllegalArgumentException {
        if (!isDivided(from)) {
            throw new IllegalArgumentException();
        }
        for (int i = 0; i <= SPAN_MOST; i++) {
            if (isPrime(from + i)) {
                return from + i;
            }
        }
        return NONE;
    }

    public int shoal(int prime, int n) throws IllegalArgumentException {
        if (n < 2 || n > SHOAL_MOST) {
            throw new IllegalArgumentException();
        }
        if (prime < 2 || prime > n || !isPrime(prime)) {
            return 0;
        }
        int many = 0;
        for (int i = 1; i <= n / prime; i++) {
            if (!hasPartBelow(i, prime)) {
                many++;
            }
        }
        return many;
    }

    public long sums(long n, int m, int rest) throws IllegalArgumentException {
        if (!isLicence(n) || m < 1 || m > MODULUS_MOST || rest < 0 || rest >= m) {
            throw new IllegalArgumentException();
        }
        return licences.addingUpTo(n, m, rest);
    }

    public long figures(long n, int figure, boolean anywhere) throws NoSuchElementException, IllegalArgumentException {
        if (figure < 0 || figure > 9) {
            throw new NoSuchElementException();
        }
        if (!isLicence(n)) {
            throw new IllegalArgumentException();
        }
        return anywhere ? n - Licences.without(n, figure) : Licences.beginning(n, figure);
    }

    public long split(int k, int i) throws NoSuchElementException, IllegalArgumentException {
        if (k < 1 || k > 9) {
            throw new IllegalArgumentException();
        }
        if (i < 0 || i >= k) {
            throw new NoSuchElementException();
        }
        long many = 0;
        for (int figure = 1; figure <= 9; figure++) {
            if ((figure - 1) % k == i) {
                many += Licences.beginning(scene.high, figure) - Licences.beginning(scene.low - 1, figure);
            }
        }
        return many;
    }

    public int round(int what) throws NoSuchElementException {
        if (what < 0 || what > 1) {
            throw new NoSuchElementException();
        }
        pond.goRound(sea, scene.taken, scene.years);
        return what == 0 ? pond.firstYear : pond.yearsLater;
    }

    public int ends() {
        return pond.yearsLeft(sea, scene.taken, scene.years);
    }

    public int see(long number) {
        if (!isNumber(number) || !scene.addSeen(number)) {
            scene.refuse(REFUSED_NUMBERS);
            return NONE;
        }
        return scene.seen;
    }

    public int fits(int what) throws NoSuchElementException {
        if (what < 0 || what > 2) {
            throw new NoSuchElementException();
        }
        markCatchers(scene.seenNumbers, scene.seen);
        if (what == 2) {
            return poached();
        }
        int many = 0;
        int least = NONE;
        for (int set = 0; set < shares.sets; set++) {
            if (explains(set)) {
                least = many == 0 ? set : least;
                many++;
            }
        }
        return what == 0 ? many : least;
    }

    public int fleets(int what) throws NoSuchElementException {
        if (what < 0 || what > 1) {
            throw new NoSuchElementException();
        }
        shares.measure(scene.low, scene.high);
        int many = 0;
        int first = NONE;
        for (int one = 0; one < sea.nets; one++) {
            for (int other = 0; other < sea.nets; other++) {
                if (staysWith(one, other) && staysWith(other, one)) {
                    first = many == 0 ? 10 * one + other : first;
                    many++;
                }
            }
        }
        return what == 0 ? many : first;
    }

    public int days(int seed, int days, int net) throws NoSuchElementException, IllegalArgumentException {
        if (net != NONE && !sea.has(net)) {
            throw new NoSuchElementException();
        }
        if (days < 0 || days > DAYS_MOST) {
            throw new IllegalArgumentException();
        }
        int drawn = (int) Math.min(scene.high - scene.low + 1, DRAW_MOST);
        int now = seed;
        int many = 0;
        for (int i = 0; i < days; i++) {
            now = now * 1103515245 + 12345;
            int caughtBy = sea.catchers(scene.low + remainder((now >>> 16) & 32767, drawn));
            if (net == NONE ? caughtBy == 0 : bit(caughtBy, net) == 1) {
                many++;
            }
        }
        return many;
    }

    public void image() {
        kept.copy(scene);
        imaged = true;
    }

    public boolean restore() {
        if (imaged) {
            scene.copy(kept);
        }
        return imaged;
    }

    private static boolean isNumber(long number) {
        return number >= 1 && number <= NUMBER_MOST;
    }

    private static boolean isDivided(int number) {
        return number >= 1 && number <= DIVIDED_MOST;
    }

    private static boolean isLicence(long n) {
        return n >= 0 && n <= LICENCE_MOST;
    }

    private static int bit(long bits, int place) {
        return (int) ((bits >>> place) & 1);
    }

    private static long remainder(long number, long mesh) {
        return mesh > 0 ? number % mesh : 0;
    }

    private static long quotient(long number, long divisor) {
        return divisor > 0 ? number / divisor : 0;
    }

    private static boolean isPrime(int number) {
        return number >= 2 && !hasPartBelow(number, number);
    }

    /** Whether a number has a prime less than a limit among its PARTS. */
    private static boolean hasPartBelow(int number, int limit) {
        for (long part = 2; part < limit && part * part <= number; part += part == 2 ? 1 : 2) {
            if (number % part == 0) {
                return true;
            }
        }
        // Without a divisor up to its root a number below the limit is a prime itself.
        return number >= 2 && number < limit;
    }

    /** Strikes out of a to b what is no prime, by all odd numbers: a list of primes would cost more room. */
    private void strike(int a, int b) {
        for (int i = 0; i < struck.length; i++) {
            struck[i] = a + i < 2;
        }
        strikeMultiples(2, a, b);
        for (long part = 3; part * part <= b; part += 2) {
            strikeMultiples(part, a, b);
        }
    }

    private void strikeMultiples(long part, int a, int b) {
        if (part < 2) {
            return;
        }
        long first = Math.max(part * part, a + remainder(part - remainder(a, part), part));
        for (long many = first; many <= b; many += part) {
            int i = (int) (many - a);
            if (i >= 0 && i < struck.length) {
                struck[i] = true;
            }
        }
    }

    private void markCatchers(long[] numbers, int many) {
        for (int i = 0; i < many && i < numbers.length && i < catchers.length; i++) {
            catchers[i] = sea.catchers(numbers[i]);
        }
    }

    private boolean serves(int set) {
        for (int i = 0; i < scene.wishes && i < catchers.length; i++) {
            if (((catchers[i] & set) != 0) != scene.isWished(i)) {
                return false;
            }
        }
        return true;
    }

    private boolean explains(int set) {
        int busy = 0;
        for (int i = 0; i < scene.seen && i < catchers.length; i++) {
            if ((catchers[i] & set) == 0) {
                return false;
            }
            busy = busy | catchers[i];
        }
        return (set & ~busy) == 0;
    }

    private int poached() {
        int many = 0;
        for (int i = 0; i < scene.seen && i < catchers.length; i++) {
            if (catchers[i] == 0) {
                many++;
            }
        }
        return many;
    }

    private boolean staysWith(int own, int other) {
        long now = gain(own, other);
        for (int another = 0; another < sea.nets; another++) {
            if (gain(another, other) > now) {
                return false;
            }
        }
        return true;
    }

    private long gain(int own, int other) {
        long both = shares.measured((1 << own) | (1 << other));
        return shares.measured(1 << own) - both + both / 2;
    }

    /** What a TEXT tells: the NETS, the POND at first, the rule. */
    private static final class Sea {
        final int[] kinds = new int[NETS_MOST];
        final long[] meshes = new long[NETS_MOST];
        final long[] rests = new long[NETS_MOST];
        final long[] froms = new long[NETS_MOST];
        final long[] tos = new long[NETS_MOST];
        final Rule rule = new Rule();
        int nets;
        int places = PLACES_FIRST;
        long taken;

        void clear() {
            nets = 0;
            places = PLACES_FIRST;
            taken = 0;
            rule.clear();
        }

        void copy(Sea other) {
            for (int i = 0; i < NETS_MOST; i++) {
                kinds[i] = other.kinds[i];
                meshes[i] = other.meshes[i];
                rests[i] = other.rests[i];
                froms[i] = other.froms[i];
                tos[i] = other.tos[i];
            }
            rule.copy(other.rule);
            nets = other.nets;
            places = other.places;
            taken = other.taken;
        }

        void cast(int kind, long mesh, long rest, long from, long to) {
            if (nets >= 0 && nets < NETS_MOST) {
                kinds[nets] = kind;
                meshes[nets] = mesh;
                rests[nets] = rest;
                froms[nets] = from;
                tos[nets] = to;
                nets++;
            }
        }

        boolean has(int net) {
            return net >= 0 && net < nets && net < NETS_MOST;
        }

        long told(int net, int what) {
            if (!has(net)) {
                return NONE;
            }
            switch (what) {
                case 0: return kinds[net];
                case 1: return meshes[net];
                case 2: return rests[net];
                case 3: return froms[net];
                default: return tos[net];
            }
        }

        /** The NETS that catch a number, as bits. */
        int catchers(long number) {
            int bits = 0;
            for (int i = 0; i < nets && i < NETS_MOST; i++) {
                if (number >= froms[i] && number <= tos[i] && remainder(number, meshes[i]) == rests[i]) {
                    bits = bits | (1 << i);
                }
            }
            return bits;
        }
    }

    /** The rule of the POND: its EXPR, each value ahead of what is done with it. */
    private static final class Rule {
        final int[] codes = new int[TAPE_MOST];
        final int[] numbers = new int[TAPE_MOST];
        int steps;
        boolean told;
        boolean asksSums;

        void clear() {
            steps = 0;
            told = false;
            asksSums = false;
        }

        void copy(Rule other) {
            for (int i = 0; i < other.steps && i < TAPE_MOST; i++) {
                codes[i] = other.codes[i];
                numbers[i] = other.numbers[i];
            }
            steps = other.steps;
            told = other.told;
            asksSums = other.asksSums;
        }

        void add(int code, int number) {
            if (steps >= 0 && steps < TAPE_MOST) {
                codes[steps] = code;
                numbers[steps] = number;
                steps++;
                asksSums = asksSums || code == PUT_SUMS;
            }
        }
    }

    /** The tape, and how a TEXT on it is read into a SEA, up to its first FAULT. */
    private static final class Reader {
        final int[] tape = new int[TAPE_MOST];
        final Sea sea = new Sea();
        int length;
        int faultAt = NONE;
        private int fault;
        private int end;
        private int at;
        private int kind;
        private int tokenAt;
        private int sign;
        private int number;
        private int digits;
        private boolean placesTold;
        private boolean pondTold;

        void take(int number) {
            for (int shift = 24; shift >= 0; shift -= 8) {
                if (length >= 0 && length < TAPE_MOST) {
                    tape[length] = (number >>> shift) & 255;
                    length++;
                }
            }
        }

        /** Reads the tape's first n bytes into the SEA and empties the tape: 0, or the FAULT. */
        int read(int n) {
            sea.clear();
            end = n;
            at = 0;
            length = 0;
            fault = 0;
            faultAt = NONE;
            placesTold = false;
            pondTold = false;
            nextToken();
            for (int i = 0; i <= TAPE_MOST && fault == 0 && kind != TOKEN_END; i++) {
                int line = lineKind();
                switch (line) {
                    case NONE:
                        fail(WRONG);
                        break;
                    case LINE_PLACES:
                        readPlaces();
                        break;
                    case LINE_POND:
                        readPond();
                        break;
                    case LINE_SPAWNS:
                        readSpawns();
                        break;
                    default:
                        readNet(line);
                        break;
                }
                if (fault == 0) {
                    expectSign(';');
                }
            }
            return fault;
        }

        private void fail(int found) {
            if (fault == 0) {
                fault = found;
                faultAt = tokenAt;
            }
        }

        private int byteAt(int i) {
            return i >= 0 && i < end && i < TAPE_MOST ? tape[i] : NONE;
        }

        private static boolean isBlank(int c) {
            return c == ' ' || c == '\n';
        }

        private static boolean isLetter(int c) {
            return c >= 'a' && c <= 'z';
        }

        private static boolean isDigit(int c) {
            return c >= '0' && c <= '9';
        }

        private void nextToken() {
            while (at < end && isBlank(byteAt(at))) {
                at++;
            }
            tokenAt = at;
            sign = byteAt(at);
            number = 0;
            digits = 0;
            if (at >= end) {
                kind = TOKEN_END;
            } else if (isLetter(sign)) {
                kind = TOKEN_WORD;
                while (at < end && isLetter(byteAt(at))) {
                    at++;
                }
            } else if (isDigit(sign)) {
                kind = TOKEN_NUMBER;
                while (at < end && isDigit(byteAt(at))) {
                    number = digits < DIGITS_MOST ? number * 10 + byteAt(at) - '0' : number;
                    digits++;
                    at++;
                }
            } else {
                kind = TOKEN_SIGN;
                at++;
            }
        }

        private boolean isSign(int c) {
            return kind == TOKEN_SIGN && sign == c;
        }

        private boolean isWord(String word) {
            if (kind != TOKEN_WORD || at - tokenAt != word.length()) {
                return false;
            }
            for (int i = 0; i < word.length(); i++) {
                if (byteAt(tokenAt + i) != word.charAt(i)) {
                    return false;
                }
            }
            return true;
        }

        private void expectSign(int c) {
            if (isSign(c)) {
                nextToken();
            } else {
                fail(WRONG);
            }
        }

        private void expectWord(String word) {
            if (isWord(word)) {
                nextToken();
            } else {
                fail(WRONG);
            }
        }

        private int expectNumber(int least, int most) {
            if (kind != TOKEN_NUMBER) {
                fail(WRONG);
            } else if (digits > DIGITS_MOST || number < least || number > most) {
                fail(TOO_MUCH);
            }
            int read = number;
            if (fault == 0) {
                nextToken();
            }
            return read;
        }

        private int lineKind() {
            if (isWord("mesh")) {
                return KIND_MESH;
            } else if (isWord("twos")) {
                return KIND_TWOS;
            } else if (isWord("ending")) {
                return KIND_ENDING;
            } else if (isWord("week")) {
                return KIND_WEEK;
            } else if (isWord("salted")) {
                return KIND_SALTED;
            } else if (isWord("places")) {
                return LINE_PLACES;
            } else if (isWord("pond")) {
                return LINE_POND;
            } else if (isWord("spawns")) {
                return LINE_SPAWNS;
            }
            return NONE;
        }

        private void readNet(int line) {
            if (sea.nets >= NETS_MOST) {
                fail(TOO_MUCH);
                return;
            }
            nextToken();
            int mesh = 7;
            int rest = 0;
            switch (line) {
                case KIND_MESH:
                    mesh = expectNumber(2, MESH_MOST);
                    rest = fault == 0 ? expectNumber(0, mesh - 1) : 0;
                    break;
                case KIND_TWOS:
                    rest = 1 << expectNumber(0, 20);
                    mesh = 2 * rest;
                    break;
                case KIND_ENDING:
                    mesh = powerOfTen(expectNumber(1, 4));
                    rest = fault == 0 ? expectNumber(0, mesh - 1) : 0;
                    break;
                case KIND_WEEK:
                    rest = expectNumber(0, 6);
                    break;
                default:
                    mesh = expectNumber(2, MESH_MOST);
                    break;
            }
            if (fault == 0) {
                readEnds(line, mesh, rest);
            }
        }

        private static int powerOfTen(int figures) {
            return figures == 1 ? 10 : figures == 2 ? 100 : figures == 3 ? 1000 : 10000;
        }

        private void readEnds(int line, int mesh, int rest) {
            if (!isWord("from")) {
                sea.cast(line, mesh, rest, 1, NUMBER_MOST);
                return;
            }
            nextToken();
            int from = expectNumber(1, END_MOST);
            if (fault == 0) {
                expectWord("to");
            }
            int to = fault == 0 ? expectNumber(from, END_MOST) : 0;
            if (fault == 0) {
                sea.cast(line, mesh, rest, from, to);
            }
        }

        private void readPlaces() {
            if (placesTold) {
                fail(TOLD_ALREADY);
            } else if (pondTold) {
                fail(TOO_LATE);
            } else {
                placesTold = true;
                nextToken();
                sea.places = expectNumber(2, PLACES_MOST);
            }
        }

        private void readPond() {
            pondTold = true;
            nextToken();
            readPlace();
            for (int i = 0; i < TAPE_MOST && fault == 0 && kind == TOKEN_NUMBER; i++) {
                readPlace();
            }
        }

        private void readPlace() {
            if (kind == TOKEN_NUMBER && digits <= DIGITS_MOST && number < sea.places && bit(sea.taken, number) == 1) {
                fail(TAKEN_ALREADY);
                return;
            }
            int place = expectNumber(0, sea.places - 1);
            if (fault == 0) {
                sea.taken = sea.taken | (1L << place);
            }
        }

        private void readSpawns() {
            if (sea.rule.told) {
                fail(TOLD_ALREADY);
                return;
            }
            sea.rule.told = true;
            nextToken();
            readExpr(1);
        }

        /** Reads an EXPR, the depth-th of those that are within one another. */
        private void readExpr(int depth) {
            if (depth > EXPRS_MOST) {
                fail(kind == TOKEN_NUMBER || kind == TOKEN_WORD || isSign('(') ? TOO_MUCH : WRONG);
                return;
            }
            readAnd(depth);
            for (int i = 0; i < TAPE_MOST && fault == 0 && isWord("or"); i++) {
                nextToken();
                readAnd(depth);
                sea.rule.add(DO_OR, 0);
            }
        }

        private void readAnd(int depth) {
            readNot(depth);
            for (int i = 0; i < TAPE_MOST && fault == 0 && isWord("and"); i++) {
                nextToken();
                readNot(depth);
                sea.rule.add(DO_AND, 0);
            }
        }

        private void readNot(int depth) {
            int nots = 0;
            while (nots < NOTS_MOST && isWord("not")) {
                nots++;
                nextToken();
            }
            if (isWord("not") && nots == NOTS_MOST) {
                fail(TOO_MUCH);
                return;
            }
            readTest(depth);
            for (int i = 0; i < nots; i++) {
                sea.rule.add(DO_NOT, 0);
            }
        }

        private void readTest(int depth) {
            readSum(depth);
            if (fault == 0 && (isSign('<') || isSign('='))) {
                int code = sign == '<' ? DO_LESS : DO_SAME;
                nextToken();
                readSum(depth);
                sea.rule.add(code, 0);
            }
        }

        private void readSum(int depth) {
            readProduct(depth);
            for (int i = 0; i < TAPE_MOST && fault == 0 && (isSign('+') || isSign('-')); i++) {
                int code = sign == '+' ? DO_ADD : DO_SUBTRACT;
                nextToken();
                readProduct(depth);
                sea.rule.add(code, 0);
            }
        }

        private void readProduct(int depth) {
            readPart(depth);
            for (int i = 0; i < TAPE_MOST && fault == 0 && (isSign('*') || isSign('/')); i++) {
                int code = sign == '*' ? DO_MULTIPLY : DO_DIVIDE;
                nextToken();
                readPart(depth);
                sea.rule.add(code, 0);
            }
        }

        private void readPart(int depth) {
            if (kind == TOKEN_NUMBER) {
                sea.rule.add(PUT_NUMBER, expectNumber(0, END_MOST));
            } else if (kind == TOKEN_WORD) {
                readValue();
            } else if (isSign('(')) {
                nextToken();
                readExpr(depth + 1);
                if (fault == 0) {
                    expectSign(')');
                }
            } else {
                fail(WRONG);
            }
        }

        private void readValue() {
            int code = valueCode();
            if (code == NONE) {
                fail(NO_VALUE);
                return;
            }
            sea.rule.add(code, 0);
            nextToken();
        }

        private int valueCode() {
            if (isWord("place")) {
                return PUT_PLACE;
            } else if (isWord("in")) {
                return PUT_IN;
            } else if (isWord("before")) {
                return PUT_BEFORE;
            } else if (isWord("after")) {
                return PUT_AFTER;
            } else if (isWord("sums")) {
                return PUT_SUMS;
            } else if (isWord("all")) {
                return PUT_ALL;
            } else if (isWord("year")) {
                return PUT_YEAR;
            }
            return NONE;
        }
    }

    /** For each SET the MESH and REST that ALL its NETS have together, FROM and TO, and how many they catch. */
    private static final class Shares {
        final long[] meshes = new long[SETS_MOST];
        final long[] rests = new long[SETS_MOST];
        final long[] froms = new long[SETS_MOST];
        final long[] tos = new long[SETS_MOST];
        final long[] counts = new long[SETS_MOST];
        int sets = 1;

        Shares() {
            meshes[0] = 1;
            froms[0] = 1;
            tos[0] = NUMBER_MOST;
        }

        boolean has(int set) {
            return set >= 0 && set < sets && set < SETS_MOST;
        }

        void tie(Sea sea) {
            sets = 1;
            for (int net = 0; net < sea.nets && net < NETS_MOST; net++) {
                int one = 1 << net;
                for (int set = 0; set < one && set + one < SETS_MOST; set++) {
                    froms[set + one] = Math.max(froms[set], sea.froms[net]);
                    tos[set + one] = Math.min(tos[set], sea.tos[net]);
                    knot(set + one, set, sea.meshes[net], sea.rests[net]);
                }
                sets = 2 * one;
            }
        }

        /** Ties a MESH and a REST to those of a SET; MESH 0: no number has both remainders. */
        private void knot(int set, int ahead, long mesh, long rest) {
            if (!has(ahead) || set < 0 || set >= SETS_MOST) {
                return;
            }
            long oldMesh = meshes[ahead];
            long oldRest = rests[ahead];
            meshes[set] = 0;
            rests[set] = oldRest;
            if (oldMesh < 1 || mesh < 1) {
                return;
            }
            long apart = remainder(remainder(rest - oldRest, mesh) + mesh, mesh);
            long common = commonPart(mesh, remainder(oldMesh, mesh));
            if (oldMesh > NUMBER_MOST) {
                // A MESH beyond all numbers leaves one number at most, and would outgrow a long in time.
                meshes[set] = apart == 0 ? oldMesh : 0;
            } else if (remainder(apart, common) == 0) {
                long steps = quotient(mesh, common);
                long many = remainder(quotient(apart, common) * inverse(quotient(oldMesh, common), steps), steps);
                meshes[set] = oldMesh * steps;
                rests[set] = oldRest + oldMesh * many;
            }
        }

        private static long commonPart(long a, long b) {
            long common = a;
            long left = b;
            for (int i = 0; i < 64 && left > 0; i++) {
                long next = common % left;
                common = left;
                left = next;
            }
            return common;
        }

        /** By what a number without a part in common with a mesh is to be taken so that 1 is left by the mesh. */
        private static long inverse(long number, long mesh) {
            long value = mesh;
            long left = remainder(number, mesh);
            long factor = 0;
            long nextFactor = 1;
            for (int i = 0; i < 64 && left > 0; i++) {
                long times = value / left;
                long newLeft = value - times * left;
                long newFactor = factor - times * nextFactor;
                value = left;
                left = newLeft;
                factor = nextFactor;
                nextFactor = newFactor;
            }
            return factor < 0 ? factor + mesh : factor;
        }

        /** The least number from low on that ALL of a SET catch, be it in THE WATERS or not; NONE. */
        private long firstFrom(int set, long low) {
            if (!has(set) || meshes[set] < 1) {
                return NONE;
            }
            long start = Math.max(low, froms[set]);
            long ahead = remainder(rests[set] - start, meshes[set]);
            long first = start + (ahead < 0 ? ahead + meshes[set] : ahead);
            return first <= tos[set] ? first : NONE;
        }

        long amount(int set, long low, long high) {
            long first = firstFrom(set, low);
            if (first == NONE || !has(set) || first > high) {
                return 0;
            }
            return quotient(Math.min(high, tos[set]) - first, meshes[set]) + 1;
        }

        /** The i-th number from low to high that ALL of a SET catch; NONE. */
        long pick(int set, long low, long high, long i) {
            if (!has(set) || i < 0 || i >= amount(set, low, high)) {
                return NONE;
            }
            return firstFrom(set, low) + i * meshes[set];
        }

        void measure(long low, long high) {
            for (int set = 0; set < sets && set < SETS_MOST; set++) {
                counts[set] = amount(set, low, high);
            }
        }

        long measured(int set) {
            return has(set) ? counts[set] : 0;
        }

        /** CAUGHT by SOME, as measured: by one, less those by two, and those by three .. */
        long bySome(int set) {
            long many = 0;
            for (int sub = 1; sub <= set && sub < SETS_MOST; sub++) {
                if ((sub & set) == sub) {
                    many += (Integer.bitCount(sub) & 1) == 1 ? counts[sub] : -counts[sub];
                }
            }
            return many;
        }

        long byJust(int set, int k) {
            long many = 0;
            for (int sub = 0; sub <= set && sub < SETS_MOST; sub++) {
                int size = Integer.bitCount(sub);
                if ((sub & set) == sub && size >= k) {
                    long ways = choices(size, k) * counts[sub];
                    many += ((size - k) & 1) == 0 ? ways : -ways;
                }
            }
            return many;
        }

        private static long choices(int many, int k) {
            long ways = 1;
            for (int i = 1; i <= k; i++) {
                ways = ways * (many - k + i) / i;
            }
            return ways;
        }
    }

    /** All that an IMAGE keeps. */
    private static final class Scene {
        final int[] actKinds = new int[ACTS_MOST];
        final long[] actFirsts = new long[ACTS_MOST];
        final long[] actSeconds = new long[ACTS_MOST];
        final long[] wishNumbers = new long[LIST_MOST];
        final boolean[] wished = new boolean[LIST_MOST];
        final long[] seenNumbers = new long[LIST_MOST];
        final int[] refused = new int[REFUSALS];
        long low = 1;
        long high = 1000;
        int lowered;
        long taken;
        int years;
        int acts;
        int wishes;
        int seen;

        /** All anew but STATUS. */
        void begin(long takenFirst) {
            low = 1;
            high = 1000;
            lowered = 0;
            taken = takenFirst;
            years = 0;
            acts = 0;
            wishes = 0;
            seen = 0;
        }

        void copy(Scene other) {
            for (int i = 0; i < ACTS_MOST; i++) {
                actKinds[i] = other.actKinds[i];
                actFirsts[i] = other.actFirsts[i];
                actSeconds[i] = other.actSeconds[i];
            }
            for (int i = 0; i < LIST_MOST; i++) {
                wishNumbers[i] = other.wishNumbers[i];
                wished[i] = other.wished[i];
                seenNumbers[i] = other.seenNumbers[i];
            }
            for (int i = 0; i < REFUSALS; i++) {
                refused[i] = other.refused[i];
            }
            low = other.low;
            high = other.high;
            lowered = other.lowered;
            taken = other.taken;
            years = other.years;
            acts = other.acts;
            wishes = other.wishes;
            seen = other.seen;
        }

        void refuse(int what) {
            if (what >= 0 && what < REFUSALS) {
                refused[what]++;
            }
        }

        int refusals(int what) {
            return what >= 0 && what < REFUSALS ? refused[what] : 0;
        }

        /** Keeps an ACT by what was ahead of it; the oldest one gives way. */
        void keepAct(int kind, long first, long second) {
            if (acts >= ACTS_MOST) {
                for (int i = 1; i < ACTS_MOST; i++) {
                    actKinds[i - 1] = actKinds[i];
                    actFirsts[i - 1] = actFirsts[i];
                    actSeconds[i - 1] = actSeconds[i];
                }
                acts = ACTS_MOST - 1;
            }
            if (acts >= 0 && acts < ACTS_MOST) {
                actKinds[acts] = kind;
                actFirsts[acts] = first;
                actSeconds[acts] = second;
                acts++;
            }
        }

        int takeBack() {
            int last = acts - 1;
            if (last < 0 || last >= ACTS_MOST) {
                return NONE;
            }
            if (actKinds[last] == ACT_WATERS) {
                low = actFirsts[last];
                high = actSeconds[last];
            } else if (actKinds[last] == ACT_LOWER) {
                lowered = (int) actFirsts[last];
            } else if (actKinds[last] == ACT_YEARS) {
                taken = actFirsts[last];
                years = (int) actSeconds[last];
            }
            acts = last;
            return last;
        }

        boolean addWish(long number, boolean isWished) {
            if (wishes < 0 || wishes >= LIST_MOST) {
                return false;
            }
            for (int i = 0; i < wishes; i++) {
                if (wishNumbers[i] == number) {
                    return false;
                }
            }
            wishNumbers[wishes] = number;
            wished[wishes] = isWished;
            wishes++;
            return true;
        }

        boolean isWished(int i) {
            return i >= 0 && i < LIST_MOST && wished[i];
        }

        int wishesThat(boolean isWished) {
            int many = 0;
            for (int i = 0; i < wishes && i < LIST_MOST; i++) {
                if (wished[i] == isWished) {
                    many++;
                }
            }
            return many;
        }

        boolean addSeen(long number) {
            if (seen < 0 || seen >= LIST_MOST) {
                return false;
            }
            seenNumbers[seen] = number;
            seen++;
            return true;
        }

        /** The least REST that with a MESH catches all WISHED and no UNWISHED ones; NONE. */
        int restThatServes(int mesh) {
            for (int i = 0; i < wishes && i < LIST_MOST; i++) {
                if (wished[i]) {
                    // What catches all WISHED ones can only have the remainder of this one.
                    int only = (int) remainder(wishNumbers[i], mesh);
                    return serves(mesh, only) ? only : NONE;
                }
            }
            for (int rest = 0; rest < mesh; rest++) {
                if (serves(mesh, rest)) {
                    return rest;
                }
            }
            return NONE;
        }

        private boolean serves(int mesh, int rest) {
            for (int i = 0; i < wishes && i < LIST_MOST; i++) {
                if ((remainder(wishNumbers[i], mesh) == rest) != wished[i]) {
                    return false;
                }
            }
            return true;
        }
    }

    /** How a POND goes on. */
    private static final class Pond {
        final int[][] rows = new int[ROWS][PLACES_MOST];
        final int[] sums = new int[PLACES_MOST];
        final long[] past = new long[YEARS_AHEAD + 1];
        int firstYear = NONE;
        int yearsLater = NONE;

        /** The PLACES that are TAKEN behind a YEAR. */
        long behind(Sea sea, long taken, int year) {
            Rule rule = sea.rule;
            if (!rule.told) {
                return taken;
            }
            if (rule.asksSums) {
                addUp(sea.places, taken);
            }
            int top = 0;
            for (int i = 0; i < rule.steps && i < TAPE_MOST; i++) {
                int code = rule.codes[i];
                if (code < DO_NOT && top < ROWS) {
                    int number = code == PUT_YEAR ? year : rule.numbers[i];
                    put(rows[top], code, number, sea.places, taken);
                    top++;
                } else if (code == DO_NOT && top > 0) {
                    join(DO_NOT, rows[top - 1], rows[top - 1], sea.places);
                } else if (code > DO_NOT && top > 1) {
                    top--;
                    join(code, rows[top - 1], rows[top], sea.places);
                }
            }
            long grown = 0;
            for (int place = 0; place < sea.places && place < PLACES_MOST; place++) {
                if (rows[0][place] != 0) {
                    grown = grown | (1L << place);
                }
            }
            return grown;
        }

        private void addUp(int places, long taken) {
            for (int i = 0; i < PLACES_MOST; i++) {
                sums[i] = 0;
            }
            for (int one = 0; one < places; one++) {
                for (int other = bit(taken, one) == 1 ? one + 1 : places; other < places; other++) {
                    int both = one + other >= places ? one + other - places : one + other;
                    if (both >= 0 && both < PLACES_MOST) {
                        sums[both] += bit(taken, other);
                    }
                }
            }
        }

        private void put(int[] row, int code, int number, int places, long taken) {
            int all = Long.bitCount(taken);
            for (int place = 0; place < places && place < PLACES_MOST && place < row.length; place++) {
                switch (code) {
                    case PUT_PLACE:
                        row[place] = place;
                        break;
                    case PUT_IN:
                        row[place] = bit(taken, place);
                        break;
                    case PUT_BEFORE:
                        row[place] = bit(taken, place == 0 ? places - 1 : place - 1);
                        break;
                    case PUT_AFTER:
                        row[place] = bit(taken, place == places - 1 ? 0 : place + 1);
                        break;
                    case PUT_SUMS:
                        row[place] = sums[place];
                        break;
                    case PUT_ALL:
                        row[place] = all;
                        break;
                    default:
                        row[place] = number;
                        break;
                }
            }
        }

        private static void join(int code, int[] left, int[] right, int places) {
            for (int place = 0; place < places && place < left.length && place < right.length; place++) {
                left[place] = joined(code, left[place], right[place]);
            }
        }

        private static int joined(int code, int left, int right) {
            switch (code) {
                case DO_NOT: return left == 0 ? 1 : 0;
                case DO_OR: return left != 0 || right != 0 ? 1 : 0;
                case DO_AND: return left != 0 && right != 0 ? 1 : 0;
                case DO_LESS: return left < right ? 1 : 0;
                case DO_SAME: return left == right ? 1 : 0;
                case DO_ADD: return left + right;
                case DO_SUBTRACT: return left - right;
                case DO_MULTIPLY: return left * right;
                default: return right == 0 ? 0 : left / right;
            }
        }

        /** AS IT WAS: the year that the rule may ask for stands still, so the first YEAR that comes again begins a round. */
        void goRound(Sea sea, long taken, int year) {
            firstYear = NONE;
            yearsLater = NONE;
            past[0] = taken;
            for (int i = 1; i <= YEARS_AHEAD && firstYear == NONE; i++) {
                past[i] = behind(sea, past[i - 1], year);
                for (int old = 0; old < i && firstYear == NONE; old++) {
                    if (past[old] == past[i]) {
                        firstYear = old;
                        yearsLater = i - old;
                    }
                }
            }
        }

        /** ENDS: behind how many YEARS no PLACE is TAKEN; NONE. */
        int yearsLeft(Sea sea, long taken, int year) {
            long now = taken;
            for (int i = 0; i < YEARS_AHEAD; i++) {
                if (now == 0) {
                    return i;
                }
                now = behind(sea, now, year + i);
            }
            return now == 0 ? YEARS_AHEAD : NONE;
        }
    }

    /** TO FIND a number: which NETS tell it in the fewest HAULS. */
    private static final class Finder {
        final long[] caught = new long[NETS_MOST];
        // By what each NET told (0 not asked, 1 caught, 2 not), as figures by three: HAULS and 1; 0 not known yet.
        final int[] known = new int[FIND_STATES];
        int nets;
        int hauls;
        int first;

        void look(Sea sea, int n) {
            nets = sea.nets;
            for (int i = 0; i < NETS_MOST; i++) {
                caught[i] = 0;
            }
            for (int number = 1; number <= n && number <= FIND_MOST; number++) {
                int catchers = sea.catchers(number);
                for (int i = 0; i < NETS_MOST; i++) {
                    caught[i] = caught[i] | ((long) bit(catchers, i) << number);
                }
            }
            for (int i = 0; i < FIND_STATES; i++) {
                known[i] = 0;
            }
            long among = ((1L << n) - 1) << 1;
            hauls = fewestHauls(among, 0, 0);
            first = hauls > 0 && hauls < FAR ? firstNet(among) : NONE;
            hauls = hauls < FAR ? hauls : NONE;
        }

        private int firstNet(long among) {
            int power = 1;
            for (int i = 0; i < nets && i < NETS_MOST; i++) {
                if (haulsBy(i, power, among, 0, 0) == hauls) {
                    return i;
                }
                power *= 3;
            }
            return NONE;
        }

        /** The fewest HAULS for those that are left; FAR, if two can't be told from one another. */
        private int fewestHauls(long among, int told, int depth) {
            if ((among & (among - 1)) == 0) {
                return 0;
            }
            if (depth >= NETS_MOST || told < 0 || told >= FIND_STATES) {
                return FAR;
            }
            if (known[told] > 0) {
                return known[told] - 1;
            }
            int best = FAR;
            int power = 1;
            for (int i = 0; i < nets && i < NETS_MOST; i++) {
                best = Math.min(best, haulsBy(i, power, among, told, depth));
                power *= 3;
            }
            known[told] = best + 1;
            return best;
        }

        private int haulsBy(int net, int power, long among, int told, int depth) {
            if (net < 0 || net >= NETS_MOST) {
                return FAR;
            }
            long in = among & caught[net];
            long out = among & ~caught[net];
            // A NET that was asked already catches all that are left, or none.
            if (in == 0 || out == 0) {
                return FAR;
            }
            int worst = fewestHauls(in, told + power, depth + 1);
            if (worst < FAR) {
                worst = Math.max(worst, fewestHauls(out, told + 2 * power, depth + 1));
            }
            return Math.min(FAR, worst + 1);
        }
    }

    /** The PARTS of a number. */
    private static final class Parts {
        // The product of the first ten primes is beyond all numbers that are divided.
        private static final int PARTS_MOST = 10;
        final int[] factors = new int[PARTS_MOST];
        final int[] often = new int[PARTS_MOST];
        int many;

        void take(int number) {
            many = 0;
            int left = number;
            for (int factor = 2; factor <= 31623 && factor * factor <= left; factor += factor == 2 ? 1 : 2) {
                int times = 0;
                while (times < 32 && left % factor == 0) {
                    left = left / factor;
                    times++;
                }
                add(factor, times);
            }
            add(left, left > 1 ? 1 : 0);
        }

        private void add(int factor, int times) {
            if (times > 0 && many >= 0 && many < PARTS_MOST) {
                factors[many] = factor;
                often[many] = times;
                many++;
            }
        }

        boolean has(int i) {
            return i >= 0 && i < many && i < PARTS_MOST;
        }

        int factor(int i) {
            return has(i) ? factors[i] : NONE;
        }

        int times(int i) {
            return has(i) ? often[i] : NONE;
        }

        int halvings() {
            return factor(0) == 2 ? times(0) : 0;
        }

        long dividers() {
            long all = 1;
            for (int i = 0; i < many; i++) {
                all *= times(i) + 1;
            }
            return all;
        }

        /** What all that divide the number add up to, itself too. */
        long addedUp() {
            long all = 1;
            for (int i = 0; i < many; i++) {
                long powers = 1;
                for (int k = 0; k < times(i); k++) {
                    powers = powers * factor(i) + 1;
                }
                all *= powers;
            }
            return all;
        }
    }

    /** LICENCES: numbers by their figures. */
    private static final class Licences {
        long[] less = new long[MODULUS_MOST];
        long[] longer = new long[MODULUS_MOST];

        /** How many of 1 to n have figures that add up to a rest by m; figure by figure, those less than n's own ones apart. */
        long addingUpTo(long n, int m, int rest) {
            for (int i = 0; i < MODULUS_MOST; i++) {
                less[i] = 0;
            }
            int own = 0;
            for (long power = LICENCE_MOST; power > 0; power = power / 10) {
                int figure = (int) (n / power % 10);
                lengthen(m, own, figure);
                own += figure;
            }
            long many = rest >= 0 && rest < MODULUS_MOST ? less[rest] : 0;
            many += remainder(own, m) == rest ? 1 : 0;
            return rest == 0 ? many - 1 : many;
        }

        private void lengthen(int m, int own, int figure) {
            for (int i = 0; i < MODULUS_MOST; i++) {
                longer[i] = 0;
            }
            for (int i = 0; i < m && i < MODULUS_MOST; i++) {
                for (int next = 0; next < 10; next++) {
                    add(i + next, m, less[i]);
                }
            }
            for (int next = 0; next < figure; next++) {
                add(own + next, m, 1);
            }
            long[] row = less;
            less = longer;
            longer = row;
        }

        private void add(int sum, int m, long many) {
            int rest = (int) remainder(sum, m);
            if (rest >= 0 && rest < MODULUS_MOST) {
                longer[rest] += many;
            }
        }

        /** How many of 1 to n have a figure as their first one. */
        static long beginning(long n, int figure) {
            long many = 0;
            for (long power = LICENCE_MOST; power > 0 && figure > 0; power = power / 10) {
                long least = figure * power;
                if (least <= n) {
                    many += Math.min(n, least + power - 1) - least + 1;
                }
            }
            return many;
        }

        /** How many of 1 to n have a figure nowhere. */
        static long without(long n, int figure) {
            long less = 0;
            boolean begun = false;
            boolean alike = true;
            for (long power = LICENCE_MOST; power > 0; power = power / 10) {
                int own = (int) (n / power % 10);
                less = less * 9;
                if (begun) {
                    // A number of fewer figures than n begins here.
                    less += figure == 0 ? 9 : 8;
                    less += alike ? own - (figure < own ? 1 : 0) : 0;
                } else if (own > 0) {
                    less += own - 1 - (figure > 0 && figure < own ? 1 : 0);
                }
                begun = begun || own > 0;
                alike = alike && !(begun && own == figure);
            }
            return begun && alike ? less + 1 : less;
        }
    }
}
