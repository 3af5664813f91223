/** The edges of PARTS, of what divides a number, of the span of primes, of SHOALS, LICENCES and SPLIT. */
final class EdgesOfNumbers {
    private static final int NONE = MeshWaters.NONE;
    private static final long MOST = 1_000_000_000_000L;
    private static final long LICENCES = 1_000_000_000_000_000L;

    private EdgesOfNumbers() {
    }

    @Says("PARTS of a number (1 to 10 to the power of 9):")
    static void partsOfOneToTheMost() {
        MeshWaters x = new MeshWaters();
        Check.illegal("parts of 0", () -> x.parts(0, NONE, false));
        Check.illegal("parts of -1", () -> x.parts(-1, NONE, false));
        Check.due("parts of 1", 0, x.parts(1, NONE, false));
        Check.due("parts of 2", 1, x.parts(2, NONE, false));
        Check.due("parts of the most", 2, x.parts(1_000_000_000, NONE, false));
        Check.illegal("parts of one more", () -> x.parts(1_000_000_001, NONE, false));
        Check.illegal("parts of the last int", () -> x.parts(Integer.MAX_VALUE, NONE, false));
        Check.illegal("parts of the first int", () -> x.parts(Integer.MIN_VALUE, NONE, false));
    }

    /** PARTS of a number: each prime and how often it is in it. */
    private static void parts(int number, int... due) {
        MeshWaters x = new MeshWaters();
        Check.due("how many in " + number, due.length / 2, x.parts(number, NONE, false));
        for (int i = 0; i < due.length / 2; i++) {
            Check.due("prime " + i + " of " + number, due[2 * i], x.parts(number, i, false));
            Check.due("how often prime " + i + " is in " + number, due[2 * i + 1], x.parts(number, i, true));
        }
        Check.noSuch("no more of " + number, () -> x.parts(number, due.length / 2, false));
    }

    @Says("its primes, rising, and how often each is in it.")
    static void primesRisingAndHowOften() {
        parts(1);
        parts(2, 2, 1);
        parts(3, 3, 1);
        parts(4, 2, 2);
        parts(12, 2, 2, 3, 1);
        parts(97, 97, 1);
        parts(30030, 2, 1, 3, 1, 5, 1, 7, 1, 11, 1, 13, 1);
        parts(223092870, 2, 1, 3, 1, 5, 1, 7, 1, 11, 1, 13, 1, 17, 1, 19, 1, 23, 1);
        parts(536870912, 2, 29);
        parts(387420489, 3, 18);
        parts(999002449, 31607, 2);
        parts(998812807, 31601, 1, 31607, 1);
        parts(999999937, 999999937, 1);
        parts(999999999, 3, 4, 37, 1, 333667, 1);
        parts(1_000_000_000, 2, 9, 5, 9);
    }

    @Says("How many numbers divide it;")
    static void howManyDivideIt() {
        MeshWaters x = new MeshWaters();
        Check.due("1", 1, x.divided(1, 0));
        Check.due("2", 2, x.divided(2, 0));
        Check.due("4", 3, x.divided(4, 0));
        Check.due("6", 4, x.divided(6, 0));
        Check.due("a prime", 2, x.divided(999999937, 0));
        Check.due("its square", 3, x.divided(999002449, 0));
        Check.due("the most that any has", 1344, x.divided(735134400, 0));
        Check.due("the most", 100, x.divided(1_000_000_000, 0));
    }

    @Says("what these add up to, without itself (of 1: 0);")
    static void whatTheseAddUpTo() {
        MeshWaters x = new MeshWaters();
        Check.due("1", 0, x.divided(1, 1));
        Check.due("2", 1, x.divided(2, 1));
        Check.due("4", 3, x.divided(4, 1));
        Check.due("6", 6, x.divided(6, 1));
        Check.due("12", 16, x.divided(12, 1));
        Check.due("945", 975, x.divided(945, 1));
        Check.due("a prime", 1, x.divided(999999937, 1));
        Check.due("twos", 536870911, x.divided(536870912, 1));
        Check.due("more than an int holds", 3074621760L, x.divided(735134400, 1));
        Check.due("the most", 1497558338, x.divided(1_000_000_000, 1));
    }

    @Says("its SORT: 0 they are less than it, 1 as much, 2 more.")
    static void itsSort() {
        MeshWaters x = new MeshWaters();
        int[] less = {1, 2, 8, 27, 999999937, 536870912};
        int[] asMuch = {6, 28, 496, 8128, 33550336};
        int[] more = {12, 18, 20, 24, 945, 735134400, 1_000_000_000};
        for (int number : less) {
            Check.due("SORT of " + number, 0, x.divided(number, 2));
        }
        for (int number : asMuch) {
            Check.due("SORT of " + number, 1, x.divided(number, 2));
        }
        for (int number : more) {
            Check.due("SORT of " + number, 2, x.divided(number, 2));
        }
    }

    @Says("THE SPAN of primes: how many primes there are from a to b (both 1 to 10 to the power of 9,")
    static void spanOfPrimes() {
        MeshWaters x = new MeshWaters();
        Check.illegal("a 0", () -> x.primes(0, 1));
        Check.illegal("a -1", () -> x.primes(-1, 1));
        Check.due("1 is none", 0, x.primes(1, 1));
        Check.due("2 is one", 1, x.primes(2, 2));
        Check.due("both ends count", 3, x.primes(3, 7));
        Check.due("neither end is one", 1, x.primes(4, 6));
        Check.due("a square is none", 0, x.primes(9, 9));
        Check.due("a square is none", 0, x.primes(999002449, 999002449));
        Check.due("the most is none", 0, x.primes(1_000_000_000, 1_000_000_000));
        Check.due("up to the most", 1, x.primes(999999937, 1_000_000_000));
        Check.due("2000 up to the most", 99, x.primes(999998000, 1_000_000_000));
        Check.illegal("b too much by 1", () -> x.primes(999999937, 1_000_000_001));
        Check.illegal("both too much by 1", () -> x.primes(1_000_000_001, 1_000_000_001));
    }

    @Says("b from a to a and 2000);")
    static void spanOfTwoThousand() {
        MeshWaters x = new MeshWaters();
        Check.due("b as a", 1, x.primes(7, 7));
        Check.illegal("b below a", () -> x.primes(7, 6));
        Check.due("2000 more", 303, x.primes(1, 2001));
        Check.due("2000 more", 303, x.primes(3, 2003));
        Check.illegal("2001 more", () -> x.primes(1, 2002));
        Check.illegal("2001 more", () -> x.primes(3, 2004));
        Check.illegal("far more", () -> x.primes(1, Integer.MAX_VALUE));
        Check.illegal("far less", () -> x.primes(1, Integer.MIN_VALUE));
    }

    @Says("the next prime from a number on (up to 2000 farther; none).")
    static void theNextPrime() {
        MeshWaters x = new MeshWaters();
        Check.due("from 1", 2, x.prime(1));
        Check.due("from a prime", 7, x.prime(7));
        Check.due("from the one behind it", 11, x.prime(8));
        // The widest gap of all: no prime is 2000 farther than the one ahead of it, so there is always one.
        Check.due("from behind 436273009", 436273291, x.prime(436273010));
        Check.due("beyond the most", 1_000_000_007, x.prime(1_000_000_000));
    }

    @Says("HALVED: how often 2 is in it, and what is left.")
    static void halved() {
        MeshWaters x = new MeshWaters();
        int[][] due = {{1, 0, 1}, {2, 1, 1}, {3, 0, 3}, {12, 2, 3}, {536870912, 29, 1}, {805306368, 28, 3}, {999999999, 0, 999999999},
            {1_000_000_000, 9, 1953125}};
        for (int[] row : due) {
            Check.due("how often 2 is in " + row[0], row[1], x.divided(row[0], 3));
            Check.due("what is left of " + row[0], row[2], x.divided(row[0], 4));
        }
    }

    @Says("SHOALS: how many of the numbers 2 to n (2 to 100000) have a prime as the least of their PARTS.")
    static void shoalsOfTwoToTheMost() {
        MeshWaters x = new MeshWaters();
        Check.illegal("n 1", () -> x.shoal(2, 1));
        Check.illegal("n -1", () -> x.shoal(2, -1));
        Check.due("2 of 2", 1, x.shoal(2, 2));
        Check.due("2 of 3", 1, x.shoal(2, 3));
        Check.due("3 of 2", 0, x.shoal(3, 2));
        Check.due("3 of 3", 1, x.shoal(3, 3));
        Check.due("3 of 8", 1, x.shoal(3, 8));
        Check.due("3 of 9", 2, x.shoal(3, 9));
        Check.due("5 of 24", 1, x.shoal(5, 24));
        Check.due("5 of 25", 2, x.shoal(5, 25));
        Check.due("2 of 100000", 50000, x.shoal(2, 100000));
        Check.due("99991 of 100000", 1, x.shoal(99991, 100000));
        Check.due("99991 of 99991", 1, x.shoal(99991, 99991));
        Check.due("99991 of 99990", 0, x.shoal(99991, 99990));
        Check.illegal("n 100001", () -> x.shoal(2, 100001));
        int all = 0;
        for (int prime = 2; prime <= 120; prime++) {
            all += x.shoal(prime, 120);
        }
        Check.due("each of 2 to 120 is in one", 119, all);
    }

    @Says("LICENCES: of the numbers 1 to n (0 to 10 to the power of 15)")
    static void licencesUpToTheMost() {
        MeshWaters x = new MeshWaters();
        Check.illegal("sums of -1", () -> x.sums(-1, 1, 0));
        Check.due("sums of 0", 0, x.sums(0, 1, 0));
        Check.due("sums of 1", 1, x.sums(1, 1, 0));
        Check.due("sums of the most", LICENCES, x.sums(LICENCES, 1, 0));
        Check.illegal("sums of one more", () -> x.sums(LICENCES + 1, 1, 0));
        Check.illegal("figures of -1", () -> x.figures(-1, 1, false));
        Check.due("figures of 0", 0, x.figures(0, 1, false));
        Check.due("figures of 0, anywhere", 0, x.figures(0, 0, true));
        Check.due("figures of 1", 1, x.figures(1, 1, false));
        Check.due("figures of the most", 111_111_111_111_112L, x.figures(LICENCES, 1, false));
        Check.illegal("figures of one more", () -> x.figures(LICENCES + 1, 1, false));
        Check.illegal("figures of one more, anywhere", () -> x.figures(LICENCES + 1, 1, true));
    }

    @Says("how many have figures that add up to a sum with a remainder by m (1 to 50);")
    static void figuresThatAddUp() {
        MeshWaters x = new MeshWaters();
        Check.illegal("m 0", () -> x.sums(9, 0, 0));
        Check.illegal("m -1", () -> x.sums(9, -1, 0));
        Check.due("m 1", 9, x.sums(9, 1, 0));
        Check.due("m 50", 1, x.sums(9, 50, 9));
        Check.illegal("m 51", () -> x.sums(9, 51, 0));
        Check.due("0 is no number of them", 0, x.sums(9, 10, 0));
        Check.due("18, not yet", 0, x.sums(18, 10, 0));
        Check.due("19, just", 1, x.sums(19, 10, 0));
        Check.due("10 as 1", 2, x.sums(10, 10, 1));
        // 599999 is the first whose figures add up to 50, 9 times 15 is the most: 135.
        Check.due("a sum of 50, not yet", 0, x.sums(599998, 50, 0));
        Check.due("a sum of 50, just", 1, x.sums(599999, 50, 0));
        long all = 0;
        for (int rest = 0; rest < 50; rest++) {
            all += x.sums(987654321098765L, 50, rest);
        }
        Check.due("each has one remainder", 987654321098765L, all);
    }

    @Says("how many have a figure as their first one;")
    static void figureAsTheFirst() {
        MeshWaters x = new MeshWaters();
        Check.due("8, not yet", 0, x.figures(8, 9, false));
        Check.due("9, just", 1, x.figures(9, 9, false));
        Check.due("9, one", 1, x.figures(9, 1, false));
        Check.due("10, two", 2, x.figures(10, 1, false));
        Check.due("19, all", 11, x.figures(19, 1, false));
        Check.due("20, no more", 11, x.figures(20, 1, false));
        Check.due("0, none", 0, x.figures(1000, 0, false));
        Check.due("9 of the most", 111_111_111_111_111L, x.figures(LICENCES, 9, false));
        Check.due("9 of one less", 111_111_111_111_111L, x.figures(LICENCES - 1, 9, false));
        Check.due("1 of one less", 111_111_111_111_111L, x.figures(LICENCES - 1, 1, false));
    }

    @Says("how many have it anywhere.")
    static void figureAnywhere() {
        MeshWaters x = new MeshWaters();
        Check.due("0, not yet", 0, x.figures(9, 0, true));
        Check.due("0, just", 1, x.figures(10, 0, true));
        Check.due("0 of 100", 10, x.figures(100, 0, true));
        Check.due("0 of 101", 11, x.figures(101, 0, true));
        Check.due("one of two alike is one", 3, x.figures(11, 1, true));
        Check.due("9 of 88", 8, x.figures(88, 9, true));
        Check.due("9 of 89", 9, x.figures(89, 9, true));
        Check.due("9 of 99", 19, x.figures(99, 9, true));
        Check.due("9 of the most", LICENCES - 205_891_132_094_649L, x.figures(LICENCES, 9, true));
        Check.due("1 of the most", LICENCES - 205_891_132_094_648L, x.figures(LICENCES, 1, true));
        Check.due("0 of the most", LICENCES - 231_627_523_606_479L, x.figures(LICENCES, 0, true));
    }

    @Says("SPLIT among k (1 to 9) are the numbers of THE WATERS by first figures:")
    static void splitAmongOneToNine() {
        MeshWaters x = new MeshWaters();
        Check.illegal("among 0", () -> x.split(0, 0));
        Check.illegal("among 10", () -> x.split(10, 0));
        Check.due("among 1", 1000, x.split(1, 0));
        Check.due("among 9", 112, x.split(9, 0));
        Check.due("among 9", 111, x.split(9, 8));
        x.waters(19, 20);
        Check.due("LOW counts", 1, x.split(9, 0));
        Check.due("HIGH counts", 1, x.split(9, 1));
        x.waters(20, 99);
        Check.due("19 does not", 0, x.split(9, 0));
        x.waters(99, 99);
        Check.due("one number", 1, x.split(9, 8));
        x.waters(1, 1);
        Check.due("one number", 1, x.split(9, 0));
        x.waters(1, MOST);
        Check.due("all", 111_111_111_112L, x.split(9, 0));
        Check.due("all", 111_111_111_111L, x.split(9, 1));
        Check.due("all", MOST, x.split(1, 0));
        x.waters(MOST, MOST);
        Check.due("the most", 1, x.split(9, 0));
        x.waters(MOST - 1, MOST - 1);
        Check.due("one less", 1, x.split(9, 8));
    }

    @Says("figure 1 to the first, 2 to the second .., round about: how many each has.")
    static void splitRoundAbout() {
        MeshWaters x = new MeshWaters();
        x.waters(1, 9);
        for (int k = 1; k <= 9; k++) {
            for (int i = 0; i < k; i++) {
                // Figures i + 1, i + 1 + k, i + 1 + 2 k .. up to 9.
                Check.due("split " + k + " " + i, (9 - i - 1) / k + 1, x.split(k, i));
            }
        }
        x.waters(90, 99);
        Check.due("9 comes round to the first of 8", 10, x.split(8, 0));
        Check.due("9 comes round to the first of 4", 10, x.split(4, 0));
        Check.due("9 comes to the second of 8 never", 0, x.split(8, 1));
        Check.due("9 comes to the last of 3", 10, x.split(3, 2));
        Check.due("9 comes to the fourth of 5", 10, x.split(5, 3));
    }
}
