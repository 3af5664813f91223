import java.math.BigInteger;
import java.util.HashMap;
import java.util.Map;
import java.util.Random;

/** Waters and licences too wide to list, counted in another way than the class does. */
final class WidthTests {
    private static final long MOST = 1_000_000_000_000L;

    private WidthTests() {
    }

    /** The MESH and REST of a SET by stepping from number to number, the widest NET first; null, if there is no number. */
    private static BigInteger[] tied(long[][] nets, int set) {
        BigInteger mesh = BigInteger.ONE;
        BigInteger rest = BigInteger.ZERO;
        for (int net = 0; net < nets.length; net++) {
            if ((set >> net & 1) == 0) {
                continue;
            }
            BigInteger m = BigInteger.valueOf(nets[net][0]);
            BigInteger r = BigInteger.valueOf(nets[net][1]);
            long tries = nets[net][0];
            while (tries > 0 && !rest.mod(m).equals(r)) {
                rest = rest.add(mesh);
                tries--;
            }
            if (tries == 0) {
                return null;
            }
            mesh = mesh.multiply(m).divide(mesh.gcd(m));
        }
        return new BigInteger[] {mesh, rest};
    }

    private static void tiedAlike(String text, long[][] nets) {
        MeshWaters x = Check.of(text);
        BigInteger[][] tied = new BigInteger[1 << nets.length][];
        for (int set = 0; set < tied.length; set++) {
            tied[set] = tied(nets, set);
        }
        long[][] windows = {{1, MOST}, {1, 1000}, {123456789012L, 987654321098L}, {MOST - 5000, MOST}, {MOST / 2, MOST}};
        for (long[] window : windows) {
            x.waters(window[0], window[1]);
            for (int set = 0; set < tied.length; set++) {
                alike(x, window, set, tied[set]);
            }
        }
    }

    private static void alike(MeshWaters x, long[] window, int set, BigInteger[] tied) {
        String what = "set " + set + " of " + window[0] + " to " + window[1];
        long many = 0;
        long first = MeshWaters.NONE;
        long last = MeshWaters.NONE;
        if (tied != null) {
            BigInteger low = BigInteger.valueOf(window[0]);
            BigInteger high = BigInteger.valueOf(window[1]);
            BigInteger start = low.add(tied[1].subtract(low).mod(tied[0]));
            if (start.compareTo(high) <= 0) {
                BigInteger steps = high.subtract(start).divide(tied[0]);
                many = steps.longValueExact() + 1;
                first = start.longValueExact();
                last = start.add(steps.multiply(tied[0])).longValueExact();
            }
        }
        Check.due("all, " + what, many, x.all(set));
        Check.due("next, " + what, first, x.next(set, 1));
        Check.due("place, " + what, MeshWaters.NONE, x.place(set, many));
        if (many > 0) {
            Check.due("place, " + what, first, x.place(set, 0));
            Check.due("place, " + what, last, x.place(set, many - 1));
            Check.due("next, " + what, last, x.next(set, last));
            Check.due("next, " + what, MeshWaters.NONE, x.next(set, last + 1));
        }
    }

    static void netsWithoutCommonParts() {
        tiedAlike("twos 20;ending 4 9376;mesh 997 3;mesh 991 5;mesh 983 982;mesh 977 1;salted 999;week 3;",
            new long[][] {{2097152, 1048576}, {10000, 9376}, {997, 3}, {991, 5}, {983, 982}, {977, 1}, {999, 0}, {7, 3}});
        tiedAlike("mesh 999 1;mesh 998 2;mesh 997 3;mesh 995 4;mesh 991 5;mesh 989 6;mesh 983 7;mesh 977 8;",
            new long[][] {{999, 1}, {998, 2}, {997, 3}, {995, 4}, {991, 5}, {989, 6}, {983, 7}, {977, 8}});
        tiedAlike("mesh 999 0;mesh 998 0;mesh 997 0;mesh 995 0;mesh 991 0;mesh 989 0;mesh 983 0;mesh 977 0;",
            new long[][] {{999, 0}, {998, 0}, {997, 0}, {995, 0}, {991, 0}, {989, 0}, {983, 0}, {977, 0}});
    }

    static void netsWithCommonParts() {
        tiedAlike("ending 4 64;twos 6;mesh 960 64;mesh 720 64;salted 8;mesh 625 64;mesh 750 64;mesh 900 64;",
            new long[][] {{10000, 64}, {128, 64}, {960, 64}, {720, 64}, {8, 0}, {625, 64}, {750, 64}, {900, 64}});
        tiedAlike("mesh 12 7;mesh 18 1;mesh 30 13;mesh 8 3;mesh 20 3;mesh 28 3;mesh 42 31;mesh 66 19;",
            new long[][] {{12, 7}, {18, 1}, {30, 13}, {8, 3}, {20, 3}, {28, 3}, {42, 31}, {66, 19}});
    }

    /** NETS that come round behind 27720 numbers, so wide waters are many such rounds and a piece. */
    static void countsOfWideWaters() {
        int[][] nets = {{2, 1}, {3, 2}, {4, 0}, {5, 3}, {7, 6}, {8, 2}, {9, 4}, {11, 0}};
        StringBuilder text = new StringBuilder();
        for (int[] net : nets) {
            text.append("mesh ").append(net[0]).append(' ').append(net[1]).append(';');
        }
        MeshWaters x = Check.of(text.toString());
        long low = 70_000_000_001L;
        long high = MOST - 12345;
        x.waters(low, high);
        int round = 27720;
        long[] often = new long[256];
        for (int i = 0; i < round; i++) {
            long number = low + i;
            if (number <= high) {
                int bits = 0;
                for (int net = 0; net < 8; net++) {
                    bits |= number % nets[net][0] == nets[net][1] ? 1 << net : 0;
                }
                often[bits] += (high - number) / round + 1;
            }
        }
        long[] some = new long[256];
        for (int set = 0; set < 256; set++) {
            long[] just = new long[9];
            for (int bits = 0; bits < 256; bits++) {
                just[Integer.bitCount(bits & set)] += often[bits];
            }
            for (int k = 0; k <= 8; k++) {
                Check.due("just " + set + " " + k, just[k], x.just(set, k));
            }
            some[set] = high - low + 1 - just[0];
            Check.due("some " + set, some[set], x.some(set));
            Check.due("all " + set, just[Integer.bitCount(set)], x.all(set));
        }
        for (int k = 0; k <= 8; k++) {
            int best = -1;
            for (int set = 0; set < 256; set++) {
                best = Integer.bitCount(set) == k && (best < 0 || some[set] > some[best]) ? set : best;
            }
            Check.due("most " + k, best, x.most(k));
        }
        x.lower(2, true);
        x.lower(6, true);
        Check.due("haul", some[68], x.haul());
    }

    // Licences by the last figure, where the class goes by the first: x is 10 y and a figure.

    private static long sums(long n, int m, int rest, Map<String, Long> known) {
        String key = n + " " + rest;
        if (n <= 0) {
            return 0;
        }
        if (!known.containsKey(key)) {
            long many = 0;
            for (int figure = 0; figure <= 9 && figure <= n; figure++) {
                many += figure > 0 && figure % m == rest ? 1 : 0;
                many += sums((n - figure) / 10, m, Math.floorMod(rest - figure, m), known);
            }
            known.put(key, many);
        }
        return known.get(key);
    }

    private static long without(long n, int gone, Map<Long, Long> known) {
        if (n <= 0) {
            return 0;
        }
        if (!known.containsKey(n)) {
            long many = 0;
            for (int figure = 0; figure <= 9 && figure <= n; figure++) {
                if (figure != gone) {
                    many += (figure > 0 ? 1 : 0) + without((n - figure) / 10, gone, known);
                }
            }
            known.put(n, many);
        }
        return known.get(n);
    }

    private static long beginning(long n, int first, Map<Long, Long> known) {
        if (n <= 0 || first == 0) {
            return 0;
        }
        if (!known.containsKey(n)) {
            long many = first <= n ? 1 : 0;
            for (int figure = 0; figure <= 9 && figure <= n; figure++) {
                many += beginning((n - figure) / 10, first, known);
            }
            known.put(n, many);
        }
        return known.get(n);
    }

    static void licencesOfManyFigures() {
        Random chance = new Random(9);
        MeshWaters x = new MeshWaters();
        for (int i = 0; i < 300; i++) {
            long n = i == 0 ? 1_000_000_000_000_000L : (long) (chance.nextDouble() * Math.pow(10, 1 + chance.nextInt(15)));
            int m = 1 + chance.nextInt(50);
            int rest = chance.nextInt(m);
            Check.due("sums " + n + " " + m + " " + rest, sums(n, m, rest, new HashMap<>()), x.sums(n, m, rest));
            for (int figure = 0; figure <= 9; figure++) {
                Check.due("anywhere " + n + " " + figure, n - without(n, figure, new HashMap<>()), x.figures(n, figure, true));
                Check.due("first " + n + " " + figure, beginning(n, figure, new HashMap<>()), x.figures(n, figure, false));
            }
        }
    }

    static void splitOfWideWaters() {
        Random chance = new Random(10);
        MeshWaters x = new MeshWaters();
        for (int i = 0; i < 60; i++) {
            long low = 1 + (long) (chance.nextDouble() * Math.pow(10, 1 + chance.nextInt(12)) / 2);
            long high = low + (long) (chance.nextDouble() * (MOST - low));
            x.waters(low, high);
            for (int k = 1; k <= 9; k++) {
                long[] due = new long[k];
                for (int figure = 1; figure <= 9; figure++) {
                    due[(figure - 1) % k] += beginning(high, figure, new HashMap<>()) - beginning(low - 1, figure, new HashMap<>());
                }
                for (int of = 0; of < k; of++) {
                    Check.due("split " + k + " " + of + " of " + low + " to " + high, due[of], x.split(k, of));
                }
            }
        }
    }

    static void dividersOfGreatNumbers() {
        Random chance = new Random(11);
        MeshWaters x = new MeshWaters();
        for (int i = 0; i < 300; i++) {
            int number = i % 3 == 0 ? 720720 * (1 + chance.nextInt(1300)) : 1 + chance.nextInt(1_000_000_000);
            long many = 0;
            long all = 0;
            for (int d = 1; (long) d * d <= number; d++) {
                if (number % d == 0) {
                    many += d == number / d ? 1 : 2;
                    all += d == number / d ? d : d + number / d;
                }
            }
            Check.due("how many divide " + number, many, x.divided(number, 0));
            Check.due("what they add up to, of " + number, all - number, x.divided(number, 1));
            Check.due("SORT of " + number, Long.compare(all - number, number) + 1, x.divided(number, 2));
        }
    }
}
